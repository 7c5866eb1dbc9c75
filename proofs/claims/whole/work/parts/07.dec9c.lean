theorem dX9_alike_0 : decode cX9_alike 0 = .ok (.aload_n 0, 1) := by decide +kernel
theorem dX9_alike_1 : decode cX9_alike 1 = .ok (.invokevirtual 169, 3) := by decide +kernel
theorem dX9_alike_4 : decode cX9_alike 4 = .ok (.aload_n 0, 1) := by decide +kernel
theorem dX9_alike_5 : decode cX9_alike 5 = .ok (.invokevirtual 240, 3) := by decide +kernel
theorem dX9_alike_8 : decode cX9_alike 8 = .ok (.iconst 0, 1) := by decide +kernel
theorem dX9_alike_9 : decode cX9_alike 9 = .ok (.istore_n 2, 1) := by decide +kernel
theorem dX9_alike_10 : decode cX9_alike 10 = .ok (.iconst 0, 1) := by decide +kernel
theorem dX9_alike_11 : decode cX9_alike 11 = .ok (.istore_n 3, 1) := by decide +kernel
theorem dX9_alike_12 : decode cX9_alike 12 = .ok (.iload_n 3, 1) := by decide +kernel
theorem dX9_alike_13 : decode cX9_alike 13 = .ok (.iconst 4, 1) := by decide +kernel
theorem dX9_alike_14 : decode cX9_alike 14 = .ok (.if_icmp .ge 75, 3) := by decide +kernel
theorem dX9_alike_17 : decode cX9_alike 17 = .ok (.iload_n 3, 1) := by decide +kernel
theorem dX9_alike_18 : decode cX9_alike 18 = .ok (.iconst 1, 1) := by decide +kernel
theorem dX9_alike_19 : decode cX9_alike 19 = .ok (.iadd, 1) := by decide +kernel
theorem dX9_alike_20 : decode cX9_alike 20 = .ok (.istore 4, 2) := by decide +kernel
theorem dX9_alike_22 : decode cX9_alike 22 = .ok (.iload 4, 2) := by decide +kernel
theorem dX9_alike_24 : decode cX9_alike 24 = .ok (.iconst 4, 1) := by decide +kernel
theorem dX9_alike_25 : decode cX9_alike 25 = .ok (.if_icmp .ge 58, 3) := by decide +kernel
theorem dX9_alike_28 : decode cX9_alike 28 = .ok (.aload_n 0, 1) := by decide +kernel
theorem dX9_alike_29 : decode cX9_alike 29 = .ok (.iload_n 3, 1) := by decide +kernel
theorem dX9_alike_30 : decode cX9_alike 30 = .ok (.invokevirtual 113, 3) := by decide +kernel
theorem dX9_alike_33 : decode cX9_alike 33 = .ok (.ifCond .eq 44, 3) := by decide +kernel
theorem dX9_alike_36 : decode cX9_alike 36 = .ok (.aload_n 0, 1) := by decide +kernel
theorem dX9_alike_37 : decode cX9_alike 37 = .ok (.iload 4, 2) := by decide +kernel
theorem dX9_alike_39 : decode cX9_alike 39 = .ok (.invokevirtual 113, 3) := by decide +kernel
theorem dX9_alike_42 : decode cX9_alike 42 = .ok (.ifCond .eq 35, 3) := by decide +kernel
theorem dX9_alike_45 : decode cX9_alike 45 = .ok (.aload_n 0, 1) := by decide +kernel
theorem dX9_alike_46 : decode cX9_alike 46 = .ok (.getfield 67, 3) := by decide +kernel
theorem dX9_alike_49 : decode cX9_alike 49 = .ok (.iload_n 3, 1) := by decide +kernel
theorem dX9_alike_50 : decode cX9_alike 50 = .ok (.iaload, 1) := by decide +kernel
theorem dX9_alike_51 : decode cX9_alike 51 = .ok (.aload_n 0, 1) := by decide +kernel
theorem dX9_alike_52 : decode cX9_alike 52 = .ok (.getfield 67, 3) := by decide +kernel
theorem dX9_alike_55 : decode cX9_alike 55 = .ok (.iload 4, 2) := by decide +kernel
theorem dX9_alike_57 : decode cX9_alike 57 = .ok (.iaload, 1) := by decide +kernel
theorem dX9_alike_58 : decode cX9_alike 58 = .ok (.if_icmp .ne 19, 3) := by decide +kernel
theorem dX9_alike_61 : decode cX9_alike 61 = .ok (.iload_n 2, 1) := by decide +kernel
theorem dX9_alike_62 : decode cX9_alike 62 = .ok (.iload_n 1, 1) := by decide +kernel
theorem dX9_alike_63 : decode cX9_alike 63 = .ok (.if_icmp .ne 11, 3) := by decide +kernel
theorem dX9_alike_66 : decode cX9_alike 66 = .ok (.bipush 10, 2) := by decide +kernel
theorem dX9_alike_68 : decode cX9_alike 68 = .ok (.iload_n 3, 1) := by decide +kernel
theorem dX9_alike_69 : decode cX9_alike 69 = .ok (.imul, 1) := by decide +kernel
theorem dX9_alike_70 : decode cX9_alike 70 = .ok (.iload 4, 2) := by decide +kernel
theorem dX9_alike_72 : decode cX9_alike 72 = .ok (.iadd, 1) := by decide +kernel
theorem dX9_alike_73 : decode cX9_alike 73 = .ok (.ireturn, 1) := by decide +kernel
theorem dX9_alike_74 : decode cX9_alike 74 = .ok (.iinc 2 1, 3) := by decide +kernel
theorem dX9_alike_77 : decode cX9_alike 77 = .ok (.iinc 4 1, 3) := by decide +kernel
theorem dX9_alike_80 : decode cX9_alike 80 = .ok (.goto (-58), 3) := by decide +kernel
theorem dX9_alike_83 : decode cX9_alike 83 = .ok (.iinc 3 1, 3) := by decide +kernel
theorem dX9_alike_86 : decode cX9_alike 86 = .ok (.goto (-74), 3) := by decide +kernel
theorem dX9_alike_89 : decode cX9_alike 89 = .ok (.iload_n 1, 1) := by decide +kernel
theorem dX9_alike_90 : decode cX9_alike 90 = .ok (.iconst (-1), 1) := by decide +kernel
theorem dX9_alike_91 : decode cX9_alike 91 = .ok (.if_icmp .ne 7, 3) := by decide +kernel
theorem dX9_alike_94 : decode cX9_alike 94 = .ok (.iload_n 2, 1) := by decide +kernel
theorem dX9_alike_95 : decode cX9_alike 95 = .ok (.goto 5, 3) := by decide +kernel
theorem dX9_alike_98 : decode cX9_alike 98 = .ok (.bipush (-6), 2) := by decide +kernel
theorem dX9_alike_100 : decode cX9_alike 100 = .ok (.ireturn, 1) := by decide +kernel
theorem dX9_areApart_0 : decode cX9_areApart 0 = .ok (.aload_n 0, 1) := by decide +kernel
theorem dX9_areApart_1 : decode cX9_areApart 1 = .ok (.invokevirtual 240, 3) := by decide +kernel
theorem dX9_areApart_4 : decode cX9_areApart 4 = .ok (.iconst 1, 1) := by decide +kernel
theorem dX9_areApart_5 : decode cX9_areApart 5 = .ok (.istore_n 1, 1) := by decide +kernel
theorem dX9_areApart_6 : decode cX9_areApart 6 = .ok (.iconst 0, 1) := by decide +kernel
theorem dX9_areApart_7 : decode cX9_areApart 7 = .ok (.istore_n 2, 1) := by decide +kernel
theorem dX9_areApart_8 : decode cX9_areApart 8 = .ok (.iload_n 2, 1) := by decide +kernel
theorem dX9_areApart_9 : decode cX9_areApart 9 = .ok (.iconst 4, 1) := by decide +kernel
theorem dX9_areApart_10 : decode cX9_areApart 10 = .ok (.if_icmp .ge 65, 3) := by decide +kernel
theorem dX9_areApart_13 : decode cX9_areApart 13 = .ok (.iload_n 2, 1) := by decide +kernel
theorem dX9_areApart_14 : decode cX9_areApart 14 = .ok (.iconst 1, 1) := by decide +kernel
theorem dX9_areApart_15 : decode cX9_areApart 15 = .ok (.iadd, 1) := by decide +kernel
theorem dX9_areApart_16 : decode cX9_areApart 16 = .ok (.istore_n 3, 1) := by decide +kernel
theorem dX9_areApart_17 : decode cX9_areApart 17 = .ok (.iload_n 3, 1) := by decide +kernel
theorem dX9_areApart_18 : decode cX9_areApart 18 = .ok (.iconst 4, 1) := by decide +kernel
theorem dX9_areApart_19 : decode cX9_areApart 19 = .ok (.if_icmp .ge 50, 3) := by decide +kernel
theorem dX9_areApart_22 : decode cX9_areApart 22 = .ok (.iload_n 1, 1) := by decide +kernel
theorem dX9_areApart_23 : decode cX9_areApart 23 = .ok (.ifCond .eq 38, 3) := by decide +kernel
theorem dX9_areApart_26 : decode cX9_areApart 26 = .ok (.aload_n 0, 1) := by decide +kernel
theorem dX9_areApart_27 : decode cX9_areApart 27 = .ok (.iload_n 2, 1) := by decide +kernel
theorem dX9_areApart_28 : decode cX9_areApart 28 = .ok (.invokevirtual 113, 3) := by decide +kernel
theorem dX9_areApart_31 : decode cX9_areApart 31 = .ok (.ifCond .eq 26, 3) := by decide +kernel
theorem dX9_areApart_34 : decode cX9_areApart 34 = .ok (.aload_n 0, 1) := by decide +kernel
theorem dX9_areApart_35 : decode cX9_areApart 35 = .ok (.iload_n 3, 1) := by decide +kernel
theorem dX9_areApart_36 : decode cX9_areApart 36 = .ok (.invokevirtual 113, 3) := by decide +kernel
theorem dX9_areApart_39 : decode cX9_areApart 39 = .ok (.ifCond .eq 18, 3) := by decide +kernel
theorem dX9_areApart_42 : decode cX9_areApart 42 = .ok (.aload_n 0, 1) := by decide +kernel
theorem dX9_areApart_43 : decode cX9_areApart 43 = .ok (.getfield 67, 3) := by decide +kernel
theorem dX9_areApart_46 : decode cX9_areApart 46 = .ok (.iload_n 2, 1) := by decide +kernel
theorem dX9_areApart_47 : decode cX9_areApart 47 = .ok (.iaload, 1) := by decide +kernel
theorem dX9_areApart_48 : decode cX9_areApart 48 = .ok (.aload_n 0, 1) := by decide +kernel
theorem dX9_areApart_49 : decode cX9_areApart 49 = .ok (.getfield 67, 3) := by decide +kernel
theorem dX9_areApart_52 : decode cX9_areApart 52 = .ok (.iload_n 3, 1) := by decide +kernel
theorem dX9_areApart_53 : decode cX9_areApart 53 = .ok (.iaload, 1) := by decide +kernel
theorem dX9_areApart_54 : decode cX9_areApart 54 = .ok (.if_icmp .eq 7, 3) := by decide +kernel
theorem dX9_areApart_57 : decode cX9_areApart 57 = .ok (.iconst 1, 1) := by decide +kernel
theorem dX9_areApart_58 : decode cX9_areApart 58 = .ok (.goto 4, 3) := by decide +kernel
theorem dX9_areApart_61 : decode cX9_areApart 61 = .ok (.iconst 0, 1) := by decide +kernel
theorem dX9_areApart_62 : decode cX9_areApart 62 = .ok (.istore_n 1, 1) := by decide +kernel
theorem dX9_areApart_63 : decode cX9_areApart 63 = .ok (.iinc 3 1, 3) := by decide +kernel
theorem dX9_areApart_66 : decode cX9_areApart 66 = .ok (.goto (-49), 3) := by decide +kernel
theorem dX9_areApart_69 : decode cX9_areApart 69 = .ok (.iinc 2 1, 3) := by decide +kernel
theorem dX9_areApart_72 : decode cX9_areApart 72 = .ok (.goto (-64), 3) := by decide +kernel
theorem dX9_areApart_75 : decode cX9_areApart 75 = .ok (.iload_n 1, 1) := by decide +kernel
theorem dX9_areApart_76 : decode cX9_areApart 76 = .ok (.ireturn, 1) := by decide +kernel
theorem dX9_canBeLaid_0 : decode cX9_canBeLaid 0 = .ok (.aload_n 0, 1) := by decide +kernel
theorem dX9_canBeLaid_1 : decode cX9_canBeLaid 1 = .ok (.getfield 34, 3) := by decide +kernel
theorem dX9_canBeLaid_4 : decode cX9_canBeLaid 4 = .ok (.iload_n 1, 1) := by decide +kernel
theorem dX9_canBeLaid_5 : decode cX9_canBeLaid 5 = .ok (.iaload, 1) := by decide +kernel
theorem dX9_canBeLaid_6 : decode cX9_canBeLaid 6 = .ok (.istore_n 3, 1) := by decide +kernel
theorem dX9_canBeLaid_7 : decode cX9_canBeLaid 7 = .ok (.aload_n 0, 1) := by decide +kernel
theorem dX9_canBeLaid_8 : decode cX9_canBeLaid 8 = .ok (.getfield 34, 3) := by decide +kernel
theorem dX9_canBeLaid_11 : decode cX9_canBeLaid 11 = .ok (.iload_n 2, 1) := by decide +kernel
theorem dX9_canBeLaid_12 : decode cX9_canBeLaid 12 = .ok (.iaload, 1) := by decide +kernel
theorem dX9_canBeLaid_13 : decode cX9_canBeLaid 13 = .ok (.istore 4, 2) := by decide +kernel
theorem dX9_canBeLaid_15 : decode cX9_canBeLaid 15 = .ok (.iconst 0, 1) := by decide +kernel
theorem dX9_canBeLaid_16 : decode cX9_canBeLaid 16 = .ok (.istore 5, 2) := by decide +kernel
theorem dX9_canBeLaid_18 : decode cX9_canBeLaid 18 = .ok (.iconst 0, 1) := by decide +kernel
theorem dX9_canBeLaid_19 : decode cX9_canBeLaid 19 = .ok (.istore 6, 2) := by decide +kernel
theorem dX9_canBeLaid_21 : decode cX9_canBeLaid 21 = .ok (.iload 6, 2) := by decide +kernel
theorem dX9_canBeLaid_23 : decode cX9_canBeLaid 23 = .ok (.bipush 100, 2) := by decide +kernel
theorem dX9_canBeLaid_25 : decode cX9_canBeLaid 25 = .ok (.if_icmp .ge 42, 3) := by decide +kernel
theorem dX9_canBeLaid_28 : decode cX9_canBeLaid 28 = .ok (.iload 5, 2) := by decide +kernel
theorem dX9_canBeLaid_30 : decode cX9_canBeLaid 30 = .ok (.ifCond .ne 37, 3) := by decide +kernel
theorem dX9_canBeLaid_33 : decode cX9_canBeLaid 33 = .ok (.aload_n 0, 1) := by decide +kernel
theorem dX9_canBeLaid_34 : decode cX9_canBeLaid 34 = .ok (.getfield 34, 3) := by decide +kernel
theorem dX9_canBeLaid_37 : decode cX9_canBeLaid 37 = .ok (.iload_n 2, 1) := by decide +kernel
theorem dX9_canBeLaid_38 : decode cX9_canBeLaid 38 = .ok (.iload 6, 2) := by decide +kernel
theorem dX9_canBeLaid_40 : decode cX9_canBeLaid 40 = .ok (.bipush 10, 2) := by decide +kernel
theorem dX9_canBeLaid_42 : decode cX9_canBeLaid 42 = .ok (.idiv, 1) := by decide +kernel
theorem dX9_canBeLaid_43 : decode cX9_canBeLaid 43 = .ok (.iastore, 1) := by decide +kernel
theorem dX9_canBeLaid_44 : decode cX9_canBeLaid 44 = .ok (.aload_n 0, 1) := by decide +kernel
theorem dX9_canBeLaid_45 : decode cX9_canBeLaid 45 = .ok (.getfield 34, 3) := by decide +kernel
theorem dX9_canBeLaid_48 : decode cX9_canBeLaid 48 = .ok (.iload_n 1, 1) := by decide +kernel
theorem dX9_canBeLaid_49 : decode cX9_canBeLaid 49 = .ok (.iload 6, 2) := by decide +kernel
theorem dX9_canBeLaid_51 : decode cX9_canBeLaid 51 = .ok (.bipush 10, 2) := by decide +kernel
theorem dX9_canBeLaid_53 : decode cX9_canBeLaid 53 = .ok (.irem, 1) := by decide +kernel
theorem dX9_canBeLaid_54 : decode cX9_canBeLaid 54 = .ok (.iastore, 1) := by decide +kernel
theorem dX9_canBeLaid_55 : decode cX9_canBeLaid 55 = .ok (.aload_n 0, 1) := by decide +kernel
theorem dX9_canBeLaid_56 : decode cX9_canBeLaid 56 = .ok (.invokevirtual 243, 3) := by decide +kernel
theorem dX9_canBeLaid_59 : decode cX9_canBeLaid 59 = .ok (.istore 5, 2) := by decide +kernel
theorem dX9_canBeLaid_61 : decode cX9_canBeLaid 61 = .ok (.iinc 6 1, 3) := by decide +kernel
theorem dX9_canBeLaid_64 : decode cX9_canBeLaid 64 = .ok (.goto (-43), 3) := by decide +kernel
theorem dX9_canBeLaid_67 : decode cX9_canBeLaid 67 = .ok (.aload_n 0, 1) := by decide +kernel
theorem dX9_canBeLaid_68 : decode cX9_canBeLaid 68 = .ok (.getfield 34, 3) := by decide +kernel
theorem dX9_canBeLaid_71 : decode cX9_canBeLaid 71 = .ok (.iload_n 1, 1) := by decide +kernel
theorem dX9_canBeLaid_72 : decode cX9_canBeLaid 72 = .ok (.iload_n 3, 1) := by decide +kernel
theorem dX9_canBeLaid_73 : decode cX9_canBeLaid 73 = .ok (.iastore, 1) := by decide +kernel
theorem dX9_canBeLaid_74 : decode cX9_canBeLaid 74 = .ok (.aload_n 0, 1) := by decide +kernel
theorem dX9_canBeLaid_75 : decode cX9_canBeLaid 75 = .ok (.getfield 34, 3) := by decide +kernel
theorem dX9_canBeLaid_78 : decode cX9_canBeLaid 78 = .ok (.iload_n 2, 1) := by decide +kernel
theorem dX9_canBeLaid_79 : decode cX9_canBeLaid 79 = .ok (.iload 4, 2) := by decide +kernel
theorem dX9_canBeLaid_81 : decode cX9_canBeLaid 81 = .ok (.iastore, 1) := by decide +kernel
theorem dX9_canBeLaid_82 : decode cX9_canBeLaid 82 = .ok (.aload_n 0, 1) := by decide +kernel
theorem dX9_canBeLaid_83 : decode cX9_canBeLaid 83 = .ok (.invokevirtual 175, 3) := by decide +kernel
theorem dX9_canBeLaid_86 : decode cX9_canBeLaid 86 = .ok (.iload 5, 2) := by decide +kernel
theorem dX9_canBeLaid_88 : decode cX9_canBeLaid 88 = .ok (.ireturn, 1) := by decide +kernel
theorem dX9_laidSet_0 : decode cX9_laidSet 0 = .ok (.aload_n 0, 1) := by decide +kernel
theorem dX9_laidSet_1 : decode cX9_laidSet 1 = .ok (.invokevirtual 243, 3) := by decide +kernel
theorem dX9_laidSet_4 : decode cX9_laidSet 4 = .ok (.ifCond .eq 5, 3) := by decide +kernel
theorem dX9_laidSet_7 : decode cX9_laidSet 7 = .ok (.iconst 0, 1) := by decide +kernel
theorem dX9_laidSet_8 : decode cX9_laidSet 8 = .ok (.ireturn, 1) := by decide +kernel
theorem dX9_laidSet_9 : decode cX9_laidSet 9 = .ok (.iconst 1, 1) := by decide +kernel
theorem dX9_laidSet_10 : decode cX9_laidSet 10 = .ok (.istore_n 1, 1) := by decide +kernel
theorem dX9_laidSet_11 : decode cX9_laidSet 11 = .ok (.iload_n 1, 1) := by decide +kernel
theorem dX9_laidSet_12 : decode cX9_laidSet 12 = .ok (.iconst 2, 1) := by decide +kernel
theorem dX9_laidSet_13 : decode cX9_laidSet 13 = .ok (.if_icmp .gt 168, 3) := by decide +kernel
theorem dX9_laidSet_16 : decode cX9_laidSet 16 = .ok (.iconst 1, 1) := by decide +kernel
theorem dX9_laidSet_17 : decode cX9_laidSet 17 = .ok (.istore_n 2, 1) := by decide +kernel
theorem dX9_laidSet_18 : decode cX9_laidSet 18 = .ok (.iload_n 2, 1) := by decide +kernel
theorem dX9_laidSet_19 : decode cX9_laidSet 19 = .ok (.iconst 1, 1) := by decide +kernel
theorem dX9_laidSet_20 : decode cX9_laidSet 20 = .ok (.aload_n 0, 1) := by decide +kernel
theorem dX9_laidSet_21 : decode cX9_laidSet 21 = .ok (.getfield 84, 3) := by decide +kernel
theorem dX9_laidSet_24 : decode cX9_laidSet 24 = .ok (.ishl, 1) := by decide +kernel
theorem dX9_laidSet_25 : decode cX9_laidSet 25 = .ok (.if_icmp .ge 150, 3) := by decide +kernel
theorem dX9_laidSet_28 : decode cX9_laidSet 28 = .ok (.iload_n 2, 1) := by decide +kernel
theorem dX9_laidSet_29 : decode cX9_laidSet 29 = .ok (.invokestatic 109, 3) := by decide +kernel
theorem dX9_laidSet_32 : decode cX9_laidSet 32 = .ok (.iload_n 1, 1) := by decide +kernel
theorem dX9_laidSet_33 : decode cX9_laidSet 33 = .ok (.if_icmp .ne 136, 3) := by decide +kernel
theorem dX9_laidSet_36 : decode cX9_laidSet 36 = .ok (.iconst 0, 1) := by decide +kernel
theorem dX9_laidSet_37 : decode cX9_laidSet 37 = .ok (.istore_n 3, 1) := by decide +kernel
theorem dX9_laidSet_38 : decode cX9_laidSet 38 = .ok (.iconst 0, 1) := by decide +kernel
theorem dX9_laidSet_39 : decode cX9_laidSet 39 = .ok (.istore 4, 2) := by decide +kernel
theorem dX9_laidSet_41 : decode cX9_laidSet 41 = .ok (.iconst 1, 1) := by decide +kernel
theorem dX9_laidSet_42 : decode cX9_laidSet 42 = .ok (.istore 5, 2) := by decide +kernel
theorem dX9_laidSet_44 : decode cX9_laidSet 44 = .ok (.aload_n 0, 1) := by decide +kernel
theorem dX9_laidSet_45 : decode cX9_laidSet 45 = .ok (.getfield 84, 3) := by decide +kernel
theorem dX9_laidSet_48 : decode cX9_laidSet 48 = .ok (.iconst 1, 1) := by decide +kernel
theorem dX9_laidSet_49 : decode cX9_laidSet 49 = .ok (.isub, 1) := by decide +kernel
theorem dX9_laidSet_50 : decode cX9_laidSet 50 = .ok (.istore 6, 2) := by decide +kernel
theorem dX9_laidSet_52 : decode cX9_laidSet 52 = .ok (.iload 6, 2) := by decide +kernel
theorem dX9_laidSet_54 : decode cX9_laidSet 54 = .ok (.ifCond .lt 26, 3) := by decide +kernel
theorem dX9_laidSet_57 : decode cX9_laidSet 57 = .ok (.iload_n 2, 1) := by decide +kernel
theorem dX9_laidSet_58 : decode cX9_laidSet 58 = .ok (.iload 6, 2) := by decide +kernel
theorem dX9_laidSet_60 : decode cX9_laidSet 60 = .ok (.ishr, 1) := by decide +kernel
theorem dX9_laidSet_61 : decode cX9_laidSet 61 = .ok (.iconst 1, 1) := by decide +kernel
theorem dX9_laidSet_62 : decode cX9_laidSet 62 = .ok (.iand, 1) := by decide +kernel
theorem dX9_laidSet_63 : decode cX9_laidSet 63 = .ok (.iconst 1, 1) := by decide +kernel
theorem dX9_laidSet_64 : decode cX9_laidSet 64 = .ok (.if_icmp .ne 8, 3) := by decide +kernel
theorem dX9_laidSet_67 : decode cX9_laidSet 67 = .ok (.iload 6, 2) := by decide +kernel
theorem dX9_laidSet_69 : decode cX9_laidSet 69 = .ok (.goto 4, 3) := by decide +kernel
theorem dX9_laidSet_72 : decode cX9_laidSet 72 = .ok (.iload_n 3, 1) := by decide +kernel
theorem dX9_laidSet_73 : decode cX9_laidSet 73 = .ok (.istore_n 3, 1) := by decide +kernel
theorem dX9_laidSet_74 : decode cX9_laidSet 74 = .ok (.iinc 6 (-1), 3) := by decide +kernel
theorem dX9_laidSet_77 : decode cX9_laidSet 77 = .ok (.goto (-25), 3) := by decide +kernel
theorem dX9_laidSet_80 : decode cX9_laidSet 80 = .ok (.iconst 0, 1) := by decide +kernel
theorem dX9_laidSet_81 : decode cX9_laidSet 81 = .ok (.istore 6, 2) := by decide +kernel
theorem dX9_laidSet_83 : decode cX9_laidSet 83 = .ok (.iload 6, 2) := by decide +kernel
theorem dX9_laidSet_85 : decode cX9_laidSet 85 = .ok (.aload_n 0, 1) := by decide +kernel
theorem dX9_laidSet_86 : decode cX9_laidSet 86 = .ok (.getfield 84, 3) := by decide +kernel
theorem dX9_laidSet_89 : decode cX9_laidSet 89 = .ok (.if_icmp .ge 63, 3) := by decide +kernel
theorem dX9_laidSet_92 : decode cX9_laidSet 92 = .ok (.iload_n 2, 1) := by decide +kernel
theorem dX9_laidSet_93 : decode cX9_laidSet 93 = .ok (.iload 6, 2) := by decide +kernel
theorem dX9_laidSet_95 : decode cX9_laidSet 95 = .ok (.ishr, 1) := by decide +kernel
theorem dX9_laidSet_96 : decode cX9_laidSet 96 = .ok (.iconst 1, 1) := by decide +kernel
theorem dX9_laidSet_97 : decode cX9_laidSet 97 = .ok (.iand, 1) := by decide +kernel
theorem dX9_laidSet_98 : decode cX9_laidSet 98 = .ok (.iconst 1, 1) := by decide +kernel
theorem dX9_laidSet_99 : decode cX9_laidSet 99 = .ok (.if_icmp .ne 8, 3) := by decide +kernel
theorem dX9_laidSet_102 : decode cX9_laidSet 102 = .ok (.iload 6, 2) := by decide +kernel
theorem dX9_laidSet_104 : decode cX9_laidSet 104 = .ok (.goto 5, 3) := by decide +kernel
theorem dX9_laidSet_107 : decode cX9_laidSet 107 = .ok (.iload 4, 2) := by decide +kernel
theorem dX9_laidSet_109 : decode cX9_laidSet 109 = .ok (.istore 4, 2) := by decide +kernel
theorem dX9_laidSet_111 : decode cX9_laidSet 111 = .ok (.iload 5, 2) := by decide +kernel
theorem dX9_laidSet_113 : decode cX9_laidSet 113 = .ok (.ifCond .eq 30, 3) := by decide +kernel
theorem dX9_laidSet_116 : decode cX9_laidSet 116 = .ok (.iload_n 2, 1) := by decide +kernel
theorem dX9_laidSet_117 : decode cX9_laidSet 117 = .ok (.iload 6, 2) := by decide +kernel
theorem dX9_laidSet_119 : decode cX9_laidSet 119 = .ok (.ishr, 1) := by decide +kernel
theorem dX9_laidSet_120 : decode cX9_laidSet 120 = .ok (.iconst 1, 1) := by decide +kernel
theorem dX9_laidSet_121 : decode cX9_laidSet 121 = .ok (.iand, 1) := by decide +kernel
theorem dX9_laidSet_122 : decode cX9_laidSet 122 = .ok (.ifCond .eq 17, 3) := by decide +kernel
theorem dX9_laidSet_125 : decode cX9_laidSet 125 = .ok (.aload_n 0, 1) := by decide +kernel
theorem dX9_laidSet_126 : decode cX9_laidSet 126 = .ok (.getfield 7, 3) := by decide +kernel
theorem dX9_laidSet_129 : decode cX9_laidSet 129 = .ok (.iconst 2, 1) := by decide +kernel
theorem dX9_laidSet_130 : decode cX9_laidSet 130 = .ok (.iload 6, 2) := by decide +kernel
theorem dX9_laidSet_132 : decode cX9_laidSet 132 = .ok (.invokestatic 88, 3) := by decide +kernel
theorem dX9_laidSet_135 : decode cX9_laidSet 135 = .ok (.iaload, 1) := by decide +kernel
theorem dX9_laidSet_136 : decode cX9_laidSet 136 = .ok (.ifCond .ne 7, 3) := by decide +kernel
theorem dX9_laidSet_139 : decode cX9_laidSet 139 = .ok (.iconst 1, 1) := by decide +kernel
theorem dX9_laidSet_140 : decode cX9_laidSet 140 = .ok (.goto 4, 3) := by decide +kernel
theorem dX9_laidSet_143 : decode cX9_laidSet 143 = .ok (.iconst 0, 1) := by decide +kernel
theorem dX9_laidSet_144 : decode cX9_laidSet 144 = .ok (.istore 5, 2) := by decide +kernel
theorem dX9_laidSet_146 : decode cX9_laidSet 146 = .ok (.iinc 6 1, 3) := by decide +kernel
theorem dX9_laidSet_149 : decode cX9_laidSet 149 = .ok (.goto (-66), 3) := by decide +kernel
theorem dX9_laidSet_152 : decode cX9_laidSet 152 = .ok (.iload 5, 2) := by decide +kernel
theorem dX9_laidSet_154 : decode cX9_laidSet 154 = .ok (.ifCond .eq 15, 3) := by decide +kernel
theorem dX9_laidSet_157 : decode cX9_laidSet 157 = .ok (.aload_n 0, 1) := by decide +kernel
theorem dX9_laidSet_158 : decode cX9_laidSet 158 = .ok (.iload_n 3, 1) := by decide +kernel
theorem dX9_laidSet_159 : decode cX9_laidSet 159 = .ok (.iload 4, 2) := by decide +kernel
theorem dX9_laidSet_161 : decode cX9_laidSet 161 = .ok (.invokevirtual 246, 3) := by decide +kernel
theorem dX9_laidSet_164 : decode cX9_laidSet 164 = .ok (.ifCond .eq 5, 3) := by decide +kernel
theorem dX9_laidSet_167 : decode cX9_laidSet 167 = .ok (.iload_n 2, 1) := by decide +kernel
theorem dX9_laidSet_168 : decode cX9_laidSet 168 = .ok (.ireturn, 1) := by decide +kernel
theorem dX9_laidSet_169 : decode cX9_laidSet 169 = .ok (.iinc 2 1, 3) := by decide +kernel
theorem dX9_laidSet_172 : decode cX9_laidSet 172 = .ok (.goto (-154), 3) := by decide +kernel
theorem dX9_laidSet_175 : decode cX9_laidSet 175 = .ok (.iinc 1 1, 3) := by decide +kernel
theorem dX9_laidSet_178 : decode cX9_laidSet 178 = .ok (.goto (-167), 3) := by decide +kernel
theorem dX9_laidSet_181 : decode cX9_laidSet 181 = .ok (.bipush (-6), 2) := by decide +kernel
theorem dX9_laidSet_183 : decode cX9_laidSet 183 = .ok (.ireturn, 1) := by decide +kernel
theorem dX9_lay_0 : decode cX9_lay 0 = .ok (.iload_n 1, 1) := by decide +kernel
theorem dX9_lay_1 : decode cX9_lay 1 = .ok (.i2l, 1) := by decide +kernel
theorem dX9_lay_2 : decode cX9_lay 2 = .ok (.lconst 0, 1) := by decide +kernel
theorem dX9_lay_3 : decode cX9_lay 3 = .ok (.lconst 1, 1) := by decide +kernel
theorem dX9_lay_4 : decode cX9_lay 4 = .ok (.invokestatic 92, 3) := by decide +kernel
theorem dX9_lay_7 : decode cX9_lay 7 = .ok (.ifCond .ne 6, 3) := by decide +kernel
theorem dX9_lay_10 : decode cX9_lay 10 = .ok (.bipush (-2), 2) := by decide +kernel
theorem dX9_lay_12 : decode cX9_lay 12 = .ok (.ireturn, 1) := by decide +kernel
theorem dX9_lay_13 : decode cX9_lay 13 = .ok (.aload_n 0, 1) := by decide +kernel
theorem dX9_lay_14 : decode cX9_lay 14 = .ok (.invokevirtual 169, 3) := by decide +kernel
theorem dX9_lay_17 : decode cX9_lay 17 = .ok (.aload_n 0, 1) := by decide +kernel
theorem dX9_lay_18 : decode cX9_lay 18 = .ok (.invokevirtual 250, 3) := by decide +kernel
theorem dX9_lay_21 : decode cX9_lay 21 = .ok (.istore_n 2, 1) := by decide +kernel
theorem dX9_lay_22 : decode cX9_lay 22 = .ok (.iload_n 2, 1) := by decide +kernel
theorem dX9_lay_23 : decode cX9_lay 23 = .ok (.ifCond .lt 8, 3) := by decide +kernel
theorem dX9_lay_26 : decode cX9_lay 26 = .ok (.iload_n 1, 1) := by decide +kernel
theorem dX9_lay_27 : decode cX9_lay 27 = .ok (.iconst 1, 1) := by decide +kernel
theorem dX9_lay_28 : decode cX9_lay 28 = .ok (.if_icmp .ne 7, 3) := by decide +kernel
theorem dX9_lay_31 : decode cX9_lay 31 = .ok (.iload_n 2, 1) := by decide +kernel
theorem dX9_lay_32 : decode cX9_lay 32 = .ok (.goto 7, 3) := by decide +kernel
theorem dX9_lay_35 : decode cX9_lay 35 = .ok (.iload_n 2, 1) := by decide +kernel
theorem dX9_lay_36 : decode cX9_lay 36 = .ok (.invokestatic 109, 3) := by decide +kernel
theorem dX9_lay_39 : decode cX9_lay 39 = .ok (.ireturn, 1) := by decide +kernel
theorem dX9_hide_0 : decode cX9_hide 0 = .ok (.aload_n 0, 1) := by decide +kernel
theorem dX9_hide_1 : decode cX9_hide 1 = .ok (.invokevirtual 178, 3) := by decide +kernel
theorem dX9_hide_4 : decode cX9_hide 4 = .ok (.istore_n 1, 1) := by decide +kernel
theorem dX9_hide_5 : decode cX9_hide 5 = .ok (.iload_n 1, 1) := by decide +kernel
theorem dX9_hide_6 : decode cX9_hide 6 = .ok (.bipush (-6), 2) := by decide +kernel
theorem dX9_hide_8 : decode cX9_hide 8 = .ok (.if_icmp .eq 5, 3) := by decide +kernel
theorem dX9_hide_11 : decode cX9_hide 11 = .ok (.iload_n 1, 1) := by decide +kernel
theorem dX9_hide_12 : decode cX9_hide 12 = .ok (.ireturn, 1) := by decide +kernel
theorem dX9_hide_13 : decode cX9_hide 13 = .ok (.iconst 0, 1) := by decide +kernel
theorem dX9_hide_14 : decode cX9_hide 14 = .ok (.istore_n 2, 1) := by decide +kernel
theorem dX9_hide_15 : decode cX9_hide 15 = .ok (.iconst 0, 1) := by decide +kernel
theorem dX9_hide_16 : decode cX9_hide 16 = .ok (.istore_n 3, 1) := by decide +kernel
theorem dX9_hide_17 : decode cX9_hide 17 = .ok (.iload_n 3, 1) := by decide +kernel
theorem dX9_hide_18 : decode cX9_hide 18 = .ok (.aload_n 0, 1) := by decide +kernel
theorem dX9_hide_19 : decode cX9_hide 19 = .ok (.getfield 84, 3) := by decide +kernel
theorem dX9_hide_22 : decode cX9_hide 22 = .ok (.if_icmp .ge 38, 3) := by decide +kernel
theorem dX9_hide_25 : decode cX9_hide 25 = .ok (.iload_n 2, 1) := by decide +kernel
theorem dX9_hide_26 : decode cX9_hide 26 = .ok (.aload_n 0, 1) := by decide +kernel
theorem dX9_hide_27 : decode cX9_hide 27 = .ok (.getfield 49, 3) := by decide +kernel
theorem dX9_hide_30 : decode cX9_hide 30 = .ok (.iload_n 3, 1) := by decide +kernel
theorem dX9_hide_31 : decode cX9_hide 31 = .ok (.iaload, 1) := by decide +kernel
theorem dX9_hide_32 : decode cX9_hide 32 = .ok (.aload_n 0, 1) := by decide +kernel
theorem dX9_hide_33 : decode cX9_hide 33 = .ok (.getfield 7, 3) := by decide +kernel
theorem dX9_hide_36 : decode cX9_hide 36 = .ok (.iconst 3, 1) := by decide +kernel
theorem dX9_hide_37 : decode cX9_hide 37 = .ok (.iload_n 3, 1) := by decide +kernel
theorem dX9_hide_38 : decode cX9_hide 38 = .ok (.invokestatic 88, 3) := by decide +kernel
theorem dX9_hide_41 : decode cX9_hide 41 = .ok (.iaload, 1) := by decide +kernel
theorem dX9_hide_42 : decode cX9_hide 42 = .ok (.if_icmp .eq 9, 3) := by decide +kernel
theorem dX9_hide_45 : decode cX9_hide 45 = .ok (.iconst 1, 1) := by decide +kernel
theorem dX9_hide_46 : decode cX9_hide 46 = .ok (.iload_n 3, 1) := by decide +kernel
theorem dX9_hide_47 : decode cX9_hide 47 = .ok (.ishl, 1) := by decide +kernel
theorem dX9_hide_48 : decode cX9_hide 48 = .ok (.goto 4, 3) := by decide +kernel
theorem dX9_hide_51 : decode cX9_hide 51 = .ok (.iconst 0, 1) := by decide +kernel
theorem dX9_hide_52 : decode cX9_hide 52 = .ok (.ior, 1) := by decide +kernel
theorem dX9_hide_53 : decode cX9_hide 53 = .ok (.istore_n 2, 1) := by decide +kernel
theorem dX9_hide_54 : decode cX9_hide 54 = .ok (.iinc 3 1, 3) := by decide +kernel
theorem dX9_hide_57 : decode cX9_hide 57 = .ok (.goto (-40), 3) := by decide +kernel
theorem dX9_hide_60 : decode cX9_hide 60 = .ok (.iload_n 2, 1) := by decide +kernel
theorem dX9_hide_61 : decode cX9_hide 61 = .ok (.ireturn, 1) := by decide +kernel
theorem dX9_isLeftSo_0 : decode cX9_isLeftSo 0 = .ok (.iconst 1, 1) := by decide +kernel
theorem dX9_isLeftSo_1 : decode cX9_isLeftSo 1 = .ok (.istore_n 1, 1) := by decide +kernel
theorem dX9_isLeftSo_2 : decode cX9_isLeftSo 2 = .ok (.iconst 0, 1) := by decide +kernel
theorem dX9_isLeftSo_3 : decode cX9_isLeftSo 3 = .ok (.istore_n 2, 1) := by decide +kernel
theorem dX9_isLeftSo_4 : decode cX9_isLeftSo 4 = .ok (.iload_n 2, 1) := by decide +kernel
theorem dX9_isLeftSo_5 : decode cX9_isLeftSo 5 = .ok (.aload_n 0, 1) := by decide +kernel
theorem dX9_isLeftSo_6 : decode cX9_isLeftSo 6 = .ok (.getfield 84, 3) := by decide +kernel
theorem dX9_isLeftSo_9 : decode cX9_isLeftSo 9 = .ok (.if_icmp .ge 38, 3) := by decide +kernel
theorem dX9_isLeftSo_12 : decode cX9_isLeftSo 12 = .ok (.iload_n 1, 1) := by decide +kernel
theorem dX9_isLeftSo_13 : decode cX9_isLeftSo 13 = .ok (.ifCond .eq 26, 3) := by decide +kernel
theorem dX9_isLeftSo_16 : decode cX9_isLeftSo 16 = .ok (.aload_n 0, 1) := by decide +kernel
theorem dX9_isLeftSo_17 : decode cX9_isLeftSo 17 = .ok (.getfield 7, 3) := by decide +kernel
theorem dX9_isLeftSo_20 : decode cX9_isLeftSo 20 = .ok (.iconst 3, 1) := by decide +kernel
theorem dX9_isLeftSo_21 : decode cX9_isLeftSo 21 = .ok (.iload_n 2, 1) := by decide +kernel
theorem dX9_isLeftSo_22 : decode cX9_isLeftSo 22 = .ok (.invokestatic 88, 3) := by decide +kernel
theorem dX9_isLeftSo_25 : decode cX9_isLeftSo 25 = .ok (.iaload, 1) := by decide +kernel
theorem dX9_isLeftSo_26 : decode cX9_isLeftSo 26 = .ok (.aload_n 0, 1) := by decide +kernel
theorem dX9_isLeftSo_27 : decode cX9_isLeftSo 27 = .ok (.getfield 49, 3) := by decide +kernel
theorem dX9_isLeftSo_30 : decode cX9_isLeftSo 30 = .ok (.iload_n 2, 1) := by decide +kernel
theorem dX9_isLeftSo_31 : decode cX9_isLeftSo 31 = .ok (.iaload, 1) := by decide +kernel
theorem dX9_isLeftSo_32 : decode cX9_isLeftSo 32 = .ok (.if_icmp .ne 7, 3) := by decide +kernel
theorem dX9_isLeftSo_35 : decode cX9_isLeftSo 35 = .ok (.iconst 1, 1) := by decide +kernel
theorem dX9_isLeftSo_36 : decode cX9_isLeftSo 36 = .ok (.goto 4, 3) := by decide +kernel
theorem dX9_isLeftSo_39 : decode cX9_isLeftSo 39 = .ok (.iconst 0, 1) := by decide +kernel
theorem dX9_isLeftSo_40 : decode cX9_isLeftSo 40 = .ok (.istore_n 1, 1) := by decide +kernel
theorem dX9_isLeftSo_41 : decode cX9_isLeftSo 41 = .ok (.iinc 2 1, 3) := by decide +kernel
theorem dX9_isLeftSo_44 : decode cX9_isLeftSo 44 = .ok (.goto (-40), 3) := by decide +kernel
theorem dX9_isLeftSo_47 : decode cX9_isLeftSo 47 = .ok (.iload_n 1, 1) := by decide +kernel
theorem dX9_isLeftSo_48 : decode cX9_isLeftSo 48 = .ok (.ireturn, 1) := by decide +kernel
theorem dX9_trace_0 : decode cX9_trace 0 = .ok (.aload_n 0, 1) := by decide +kernel
theorem dX9_trace_1 : decode cX9_trace 1 = .ok (.invokevirtual 178, 3) := by decide +kernel
theorem dX9_trace_4 : decode cX9_trace 4 = .ok (.istore_n 1, 1) := by decide +kernel
theorem dX9_trace_5 : decode cX9_trace 5 = .ok (.iload_n 1, 1) := by decide +kernel
theorem dX9_trace_6 : decode cX9_trace 6 = .ok (.bipush (-6), 2) := by decide +kernel
theorem dX9_trace_8 : decode cX9_trace 8 = .ok (.if_icmp .eq 5, 3) := by decide +kernel
theorem dX9_trace_11 : decode cX9_trace 11 = .ok (.iload_n 1, 1) := by decide +kernel
theorem dX9_trace_12 : decode cX9_trace 12 = .ok (.ireturn, 1) := by decide +kernel
theorem dX9_trace_13 : decode cX9_trace 13 = .ok (.aload_n 0, 1) := by decide +kernel
theorem dX9_trace_14 : decode cX9_trace 14 = .ok (.invokevirtual 169, 3) := by decide +kernel
theorem dX9_trace_17 : decode cX9_trace 17 = .ok (.bipush (-6), 2) := by decide +kernel
theorem dX9_trace_19 : decode cX9_trace 19 = .ok (.istore_n 2, 1) := by decide +kernel
theorem dX9_trace_20 : decode cX9_trace 20 = .ok (.iconst 0, 1) := by decide +kernel
theorem dX9_trace_21 : decode cX9_trace 21 = .ok (.istore_n 3, 1) := by decide +kernel
theorem dX9_trace_22 : decode cX9_trace 22 = .ok (.iload_n 3, 1) := by decide +kernel
theorem dX9_trace_23 : decode cX9_trace 23 = .ok (.bipush 6, 2) := by decide +kernel
theorem dX9_trace_25 : decode cX9_trace 25 = .ok (.if_icmp .gt 65, 3) := by decide +kernel
theorem dX9_trace_28 : decode cX9_trace 28 = .ok (.iload_n 2, 1) := by decide +kernel
theorem dX9_trace_29 : decode cX9_trace 29 = .ok (.ifCond .ge 61, 3) := by decide +kernel
theorem dX9_trace_32 : decode cX9_trace 32 = .ok (.iconst 0, 1) := by decide +kernel
theorem dX9_trace_33 : decode cX9_trace 33 = .ok (.istore 4, 2) := by decide +kernel
theorem dX9_trace_35 : decode cX9_trace 35 = .ok (.iload 4, 2) := by decide +kernel
theorem dX9_trace_37 : decode cX9_trace 37 = .ok (.iconst 4, 1) := by decide +kernel
theorem dX9_trace_38 : decode cX9_trace 38 = .ok (.iload_n 3, 1) := by decide +kernel
theorem dX9_trace_39 : decode cX9_trace 39 = .ok (.invokestatic 199, 3) := by decide +kernel
theorem dX9_trace_42 : decode cX9_trace 42 = .ok (.if_icmp .ge 42, 3) := by decide +kernel
theorem dX9_trace_45 : decode cX9_trace 45 = .ok (.iload_n 2, 1) := by decide +kernel
theorem dX9_trace_46 : decode cX9_trace 46 = .ok (.ifCond .ge 38, 3) := by decide +kernel
theorem dX9_trace_49 : decode cX9_trace 49 = .ok (.aload_n 0, 1) := by decide +kernel
theorem dX9_trace_50 : decode cX9_trace 50 = .ok (.iload 4, 2) := by decide +kernel
theorem dX9_trace_52 : decode cX9_trace 52 = .ok (.iload_n 3, 1) := by decide +kernel
theorem dX9_trace_53 : decode cX9_trace 53 = .ok (.invokevirtual 202, 3) := by decide +kernel
theorem dX9_trace_56 : decode cX9_trace 56 = .ok (.aload_n 0, 1) := by decide +kernel
theorem dX9_trace_57 : decode cX9_trace 57 = .ok (.iload_n 3, 1) := by decide +kernel
theorem dX9_trace_58 : decode cX9_trace 58 = .ok (.invokevirtual 205, 3) := by decide +kernel
theorem dX9_trace_61 : decode cX9_trace 61 = .ok (.ifCond .eq 14, 3) := by decide +kernel
theorem dX9_trace_64 : decode cX9_trace 64 = .ok (.aload_n 0, 1) := by decide +kernel
theorem dX9_trace_65 : decode cX9_trace 65 = .ok (.invokevirtual 253, 3) := by decide +kernel
theorem dX9_trace_68 : decode cX9_trace 68 = .ok (.ifCond .eq 7, 3) := by decide +kernel
theorem dX9_trace_71 : decode cX9_trace 71 = .ok (.iload_n 3, 1) := by decide +kernel
theorem dX9_trace_72 : decode cX9_trace 72 = .ok (.goto 5, 3) := by decide +kernel
theorem dX9_trace_75 : decode cX9_trace 75 = .ok (.bipush (-6), 2) := by decide +kernel
theorem dX9_trace_77 : decode cX9_trace 77 = .ok (.istore_n 2, 1) := by decide +kernel
theorem dX9_trace_78 : decode cX9_trace 78 = .ok (.iinc 4 1, 3) := by decide +kernel
theorem dX9_trace_81 : decode cX9_trace 81 = .ok (.goto (-46), 3) := by decide +kernel
theorem dX9_trace_84 : decode cX9_trace 84 = .ok (.iinc 3 1, 3) := by decide +kernel
theorem dX9_trace_87 : decode cX9_trace 87 = .ok (.goto (-65), 3) := by decide +kernel
theorem dX9_trace_90 : decode cX9_trace 90 = .ok (.aload_n 0, 1) := by decide +kernel
theorem dX9_trace_91 : decode cX9_trace 91 = .ok (.invokevirtual 175, 3) := by decide +kernel
theorem dX9_trace_94 : decode cX9_trace 94 = .ok (.iload_n 2, 1) := by decide +kernel
theorem dX9_trace_95 : decode cX9_trace 95 = .ok (.ireturn, 1) := by decide +kernel
theorem dX9_lock_0 : decode cX9_lock 0 = .ok (.iload_n 1, 1) := by decide +kernel
theorem dX9_lock_1 : decode cX9_lock 1 = .ok (.iconst (-1), 1) := by decide +kernel
theorem dX9_lock_2 : decode cX9_lock 2 = .ok (.if_icmp .eq 13, 3) := by decide +kernel
theorem dX9_lock_5 : decode cX9_lock 5 = .ok (.aload_n 0, 1) := by decide +kernel
theorem dX9_lock_6 : decode cX9_lock 6 = .ok (.iload_n 1, 1) := by decide +kernel
theorem dX9_lock_7 : decode cX9_lock 7 = .ok (.invokevirtual 103, 3) := by decide +kernel
theorem dX9_lock_10 : decode cX9_lock 10 = .ok (.ifCond .ne 5, 3) := by decide +kernel
theorem dX9_lock_13 : decode cX9_lock 13 = .ok (.iconst (-1), 1) := by decide +kernel
theorem dX9_lock_14 : decode cX9_lock 14 = .ok (.ireturn, 1) := by decide +kernel
theorem dX9_lock_15 : decode cX9_lock 15 = .ok (.iload_n 2, 1) := by decide +kernel
theorem dX9_lock_16 : decode cX9_lock 16 = .ok (.i2l, 1) := by decide +kernel
theorem dX9_lock_17 : decode cX9_lock 17 = .ok (.lconst 0, 1) := by decide +kernel
theorem dX9_lock_18 : decode cX9_lock 18 = .ok (.ldc2_w 256, 3) := by decide +kernel
theorem dX9_lock_21 : decode cX9_lock 21 = .ok (.invokestatic 92, 3) := by decide +kernel
theorem dX9_lock_24 : decode cX9_lock 24 = .ok (.ifCond .ne 6, 3) := by decide +kernel
theorem dX9_lock_27 : decode cX9_lock 27 = .ok (.bipush (-2), 2) := by decide +kernel
theorem dX9_lock_29 : decode cX9_lock 29 = .ok (.ireturn, 1) := by decide +kernel
theorem dX9_lock_30 : decode cX9_lock 30 = .ok (.aload_n 0, 1) := by decide +kernel
theorem dX9_lock_31 : decode cX9_lock 31 = .ok (.invokevirtual 169, 3) := by decide +kernel
theorem dX9_lock_34 : decode cX9_lock 34 = .ok (.iload_n 1, 1) := by decide +kernel
theorem dX9_lock_35 : decode cX9_lock 35 = .ok (.ifCond .ge 7, 3) := by decide +kernel
theorem dX9_lock_38 : decode cX9_lock 38 = .ok (.iconst 0, 1) := by decide +kernel
theorem dX9_lock_39 : decode cX9_lock 39 = .ok (.goto 8, 3) := by decide +kernel
theorem dX9_lock_42 : decode cX9_lock 42 = .ok (.iconst 2, 1) := by decide +kernel
theorem dX9_lock_43 : decode cX9_lock 43 = .ok (.iload_n 1, 1) := by decide +kernel
theorem dX9_lock_44 : decode cX9_lock 44 = .ok (.invokestatic 88, 3) := by decide +kernel
theorem dX9_lock_47 : decode cX9_lock 47 = .ok (.istore_n 3, 1) := by decide +kernel
theorem dX9_lock_48 : decode cX9_lock 48 = .ok (.aload_n 0, 1) := by decide +kernel
theorem dX9_lock_49 : decode cX9_lock 49 = .ok (.getfield 7, 3) := by decide +kernel
theorem dX9_lock_52 : decode cX9_lock 52 = .ok (.iload_n 3, 1) := by decide +kernel
theorem dX9_lock_53 : decode cX9_lock 53 = .ok (.iaload, 1) := by decide +kernel
theorem dX9_lock_54 : decode cX9_lock 54 = .ok (.istore 4, 2) := by decide +kernel
theorem dX9_lock_56 : decode cX9_lock 56 = .ok (.aload_n 0, 1) := by decide +kernel
theorem dX9_lock_57 : decode cX9_lock 57 = .ok (.getfield 7, 3) := by decide +kernel
theorem dX9_lock_60 : decode cX9_lock 60 = .ok (.iload_n 3, 1) := by decide +kernel
theorem dX9_lock_61 : decode cX9_lock 61 = .ok (.iload_n 1, 1) := by decide +kernel
theorem dX9_lock_62 : decode cX9_lock 62 = .ok (.ifCond .ge 8, 3) := by decide +kernel
theorem dX9_lock_65 : decode cX9_lock 65 = .ok (.iload 4, 2) := by decide +kernel
theorem dX9_lock_67 : decode cX9_lock 67 = .ok (.goto 4, 3) := by decide +kernel
theorem dX9_lock_70 : decode cX9_lock 70 = .ok (.iconst 1, 1) := by decide +kernel
theorem dX9_lock_71 : decode cX9_lock 71 = .ok (.iastore, 1) := by decide +kernel
theorem dX9_lock_72 : decode cX9_lock 72 = .ok (.iconst 0, 1) := by decide +kernel
theorem dX9_lock_73 : decode cX9_lock 73 = .ok (.istore 5, 2) := by decide +kernel
theorem dX9_lock_75 : decode cX9_lock 75 = .ok (.iconst 0, 1) := by decide +kernel
theorem dX9_lock_76 : decode cX9_lock 76 = .ok (.istore 6, 2) := by decide +kernel
theorem dX9_lock_78 : decode cX9_lock 78 = .ok (.iload 6, 2) := by decide +kernel
theorem dX9_lock_80 : decode cX9_lock 80 = .ok (.iconst 4, 1) := by decide +kernel
theorem dX9_lock_81 : decode cX9_lock 81 = .ok (.iload_n 2, 1) := by decide +kernel
theorem dX9_lock_82 : decode cX9_lock 82 = .ok (.invokestatic 199, 3) := by decide +kernel
theorem dX9_lock_85 : decode cX9_lock 85 = .ok (.if_icmp .ge 97, 3) := by decide +kernel
theorem dX9_lock_88 : decode cX9_lock 88 = .ok (.aload_n 0, 1) := by decide +kernel
theorem dX9_lock_89 : decode cX9_lock 89 = .ok (.iload 6, 2) := by decide +kernel
theorem dX9_lock_91 : decode cX9_lock 91 = .ok (.iload_n 2, 1) := by decide +kernel
theorem dX9_lock_92 : decode cX9_lock 92 = .ok (.invokevirtual 202, 3) := by decide +kernel
theorem dX9_lock_95 : decode cX9_lock 95 = .ok (.aload_n 0, 1) := by decide +kernel
theorem dX9_lock_96 : decode cX9_lock 96 = .ok (.iload_n 2, 1) := by decide +kernel
theorem dX9_lock_97 : decode cX9_lock 97 = .ok (.invokevirtual 205, 3) := by decide +kernel
theorem dX9_lock_100 : decode cX9_lock 100 = .ok (.ifCond .eq 76, 3) := by decide +kernel
theorem dX9_lock_103 : decode cX9_lock 103 = .ok (.aload_n 0, 1) := by decide +kernel
theorem dX9_lock_104 : decode cX9_lock 104 = .ok (.invokevirtual 237, 3) := by decide +kernel
theorem dX9_lock_107 : decode cX9_lock 107 = .ok (.istore 7, 2) := by decide +kernel
theorem dX9_lock_109 : decode cX9_lock 109 = .ok (.iconst 0, 1) := by decide +kernel
theorem dX9_lock_110 : decode cX9_lock 110 = .ok (.istore 8, 2) := by decide +kernel
theorem dX9_lock_112 : decode cX9_lock 112 = .ok (.iconst 0, 1) := by decide +kernel
theorem dX9_lock_113 : decode cX9_lock 113 = .ok (.istore 9, 2) := by decide +kernel
theorem dX9_lock_115 : decode cX9_lock 115 = .ok (.iload 9, 2) := by decide +kernel
theorem dX9_lock_117 : decode cX9_lock 117 = .ok (.iload 5, 2) := by decide +kernel
theorem dX9_lock_119 : decode cX9_lock 119 = .ok (.if_icmp .ge 33, 3) := by decide +kernel
theorem dX9_lock_122 : decode cX9_lock 122 = .ok (.iload 8, 2) := by decide +kernel
theorem dX9_lock_124 : decode cX9_lock 124 = .ok (.ifCond .ne 15, 3) := by decide +kernel
theorem dX9_lock_127 : decode cX9_lock 127 = .ok (.aload_n 0, 1) := by decide +kernel
theorem dX9_lock_128 : decode cX9_lock 128 = .ok (.getfield 70, 3) := by decide +kernel
theorem dX9_lock_131 : decode cX9_lock 131 = .ok (.iload 9, 2) := by decide +kernel
theorem dX9_lock_133 : decode cX9_lock 133 = .ok (.iaload, 1) := by decide +kernel
theorem dX9_lock_134 : decode cX9_lock 134 = .ok (.iload 7, 2) := by decide +kernel
theorem dX9_lock_136 : decode cX9_lock 136 = .ok (.if_icmp .ne 7, 3) := by decide +kernel
theorem dX9_lock_139 : decode cX9_lock 139 = .ok (.iconst 1, 1) := by decide +kernel
theorem dX9_lock_140 : decode cX9_lock 140 = .ok (.goto 4, 3) := by decide +kernel
theorem dX9_lock_143 : decode cX9_lock 143 = .ok (.iconst 0, 1) := by decide +kernel
theorem dX9_lock_144 : decode cX9_lock 144 = .ok (.istore 8, 2) := by decide +kernel
theorem dX9_lock_146 : decode cX9_lock 146 = .ok (.iinc 9 1, 3) := by decide +kernel
theorem dX9_lock_149 : decode cX9_lock 149 = .ok (.goto (-34), 3) := by decide +kernel
theorem dX9_lock_152 : decode cX9_lock 152 = .ok (.aload_n 0, 1) := by decide +kernel
theorem dX9_lock_153 : decode cX9_lock 153 = .ok (.getfield 70, 3) := by decide +kernel
theorem dX9_lock_156 : decode cX9_lock 156 = .ok (.iload 5, 2) := by decide +kernel
theorem dX9_lock_158 : decode cX9_lock 158 = .ok (.iload 7, 2) := by decide +kernel
theorem dX9_lock_160 : decode cX9_lock 160 = .ok (.iastore, 1) := by decide +kernel
theorem dX9_lock_161 : decode cX9_lock 161 = .ok (.iload 5, 2) := by decide +kernel
theorem dX9_lock_163 : decode cX9_lock 163 = .ok (.iload 8, 2) := by decide +kernel
theorem dX9_lock_165 : decode cX9_lock 165 = .ok (.ifCond .eq 7, 3) := by decide +kernel
theorem dX9_lock_168 : decode cX9_lock 168 = .ok (.iconst 0, 1) := by decide +kernel
theorem dX9_lock_169 : decode cX9_lock 169 = .ok (.goto 4, 3) := by decide +kernel
theorem dX9_lock_172 : decode cX9_lock 172 = .ok (.iconst 1, 1) := by decide +kernel
theorem dX9_lock_173 : decode cX9_lock 173 = .ok (.iadd, 1) := by decide +kernel
theorem dX9_lock_174 : decode cX9_lock 174 = .ok (.istore 5, 2) := by decide +kernel
theorem dX9_lock_176 : decode cX9_lock 176 = .ok (.iinc 6 1, 3) := by decide +kernel
theorem dX9_lock_179 : decode cX9_lock 179 = .ok (.goto (-101), 3) := by decide +kernel
theorem dX9_lock_182 : decode cX9_lock 182 = .ok (.aload_n 0, 1) := by decide +kernel
theorem dX9_lock_183 : decode cX9_lock 183 = .ok (.getfield 7, 3) := by decide +kernel
theorem dX9_lock_186 : decode cX9_lock 186 = .ok (.iload_n 3, 1) := by decide +kernel
theorem dX9_lock_187 : decode cX9_lock 187 = .ok (.iload 4, 2) := by decide +kernel
theorem dX9_lock_189 : decode cX9_lock 189 = .ok (.iastore, 1) := by decide +kernel
theorem dX9_lock_190 : decode cX9_lock 190 = .ok (.aload_n 0, 1) := by decide +kernel
theorem dX9_lock_191 : decode cX9_lock 191 = .ok (.invokevirtual 175, 3) := by decide +kernel
theorem dX9_lock_194 : decode cX9_lock 194 = .ok (.iload 5, 2) := by decide +kernel
theorem dX9_lock_196 : decode cX9_lock 196 = .ok (.ireturn, 1) := by decide +kernel
theorem dX9_year_0 : decode cX9_year 0 = .ok (.iload_n 1, 1) := by decide +kernel
theorem dX9_year_1 : decode cX9_year 1 = .ok (.i2l, 1) := by decide +kernel
theorem dX9_year_2 : decode cX9_year 2 = .ok (.lconst 0, 1) := by decide +kernel
theorem dX9_year_3 : decode cX9_year 3 = .ok (.ldc2_w 258, 3) := by decide +kernel
theorem dX9_year_6 : decode cX9_year 6 = .ok (.invokestatic 92, 3) := by decide +kernel
theorem dX9_year_9 : decode cX9_year 9 = .ok (.ifCond .eq 27, 3) := by decide +kernel
theorem dX9_year_12 : decode cX9_year 12 = .ok (.iload_n 2, 1) := by decide +kernel
theorem dX9_year_13 : decode cX9_year 13 = .ok (.i2l, 1) := by decide +kernel
theorem dX9_year_14 : decode cX9_year 14 = .ok (.lconst 1, 1) := by decide +kernel
theorem dX9_year_15 : decode cX9_year 15 = .ok (.ldc2_w 260, 3) := by decide +kernel
theorem dX9_year_18 : decode cX9_year 18 = .ok (.invokestatic 92, 3) := by decide +kernel
theorem dX9_year_21 : decode cX9_year 21 = .ok (.ifCond .eq 15, 3) := by decide +kernel
theorem dX9_year_24 : decode cX9_year 24 = .ok (.iload_n 3, 1) := by decide +kernel
theorem dX9_year_25 : decode cX9_year 25 = .ok (.i2l, 1) := by decide +kernel
theorem dX9_year_26 : decode cX9_year 26 = .ok (.lconst 0, 1) := by decide +kernel
theorem dX9_year_27 : decode cX9_year 27 = .ok (.ldc2_w 262, 3) := by decide +kernel
theorem dX9_year_30 : decode cX9_year 30 = .ok (.invokestatic 92, 3) := by decide +kernel
theorem dX9_year_33 : decode cX9_year 33 = .ok (.ifCond .ne 6, 3) := by decide +kernel
theorem dX9_year_36 : decode cX9_year 36 = .ok (.bipush (-2), 2) := by decide +kernel
theorem dX9_year_38 : decode cX9_year 38 = .ok (.ireturn, 1) := by decide +kernel
theorem dX9_year_39 : decode cX9_year 39 = .ok (.aload_n 0, 1) := by decide +kernel
theorem dX9_year_40 : decode cX9_year 40 = .ok (.invokevirtual 169, 3) := by decide +kernel
theorem dX9_year_43 : decode cX9_year 43 = .ok (.iload_n 1, 1) := by decide +kernel
theorem dX9_year_44 : decode cX9_year 44 = .ok (.istore 4, 2) := by decide +kernel
theorem dX9_year_46 : decode cX9_year 46 = .ok (.aload_n 0, 1) := by decide +kernel
theorem dX9_year_47 : decode cX9_year 47 = .ok (.iconst 0, 1) := by decide +kernel
theorem dX9_year_48 : decode cX9_year 48 = .ok (.putfield 136, 3) := by decide +kernel
theorem dX9_year_51 : decode cX9_year 51 = .ok (.iconst 0, 1) := by decide +kernel
theorem dX9_year_52 : decode cX9_year 52 = .ok (.istore 5, 2) := by decide +kernel
theorem dX9_year_54 : decode cX9_year 54 = .ok (.iconst 0, 1) := by decide +kernel
theorem dX9_year_55 : decode cX9_year 55 = .ok (.istore 6, 2) := by decide +kernel
theorem dX9_year_57 : decode cX9_year 57 = .ok (.iconst 0, 1) := by decide +kernel
theorem dX9_year_58 : decode cX9_year 58 = .ok (.istore 7, 2) := by decide +kernel
theorem dX9_year_60 : decode cX9_year 60 = .ok (.iload 7, 2) := by decide +kernel
theorem dX9_year_62 : decode cX9_year 62 = .ok (.iload_n 2, 1) := by decide +kernel
theorem dX9_year_63 : decode cX9_year 63 = .ok (.if_icmp .ge 133, 3) := by decide +kernel
theorem dX9_year_66 : decode cX9_year 66 = .ok (.aload_n 0, 1) := by decide +kernel
theorem dX9_year_67 : decode cX9_year 67 = .ok (.invokevirtual 175, 3) := by decide +kernel
theorem dX9_year_70 : decode cX9_year 70 = .ok (.aload_n 0, 1) := by decide +kernel
theorem dX9_year_71 : decode cX9_year 71 = .ok (.bipush (-6), 2) := by decide +kernel
theorem dX9_year_73 : decode cX9_year 73 = .ok (.putfield 127, 3) := by decide +kernel
theorem dX9_year_76 : decode cX9_year 76 = .ok (.aload_n 0, 1) := by decide +kernel
theorem dX9_year_77 : decode cX9_year 77 = .ok (.getfield 136, 3) := by decide +kernel
theorem dX9_year_80 : decode cX9_year 80 = .ok (.istore 8, 2) := by decide +kernel
theorem dX9_year_82 : decode cX9_year 82 = .ok (.iconst 0, 1) := by decide +kernel
theorem dX9_year_83 : decode cX9_year 83 = .ok (.istore 9, 2) := by decide +kernel
theorem dX9_year_85 : decode cX9_year 85 = .ok (.iload 9, 2) := by decide +kernel
theorem dX9_year_87 : decode cX9_year 87 = .ok (.iconst 3, 1) := by decide +kernel
theorem dX9_year_88 : decode cX9_year 88 = .ok (.if_icmp .ge 83, 3) := by decide +kernel
theorem dX9_year_91 : decode cX9_year 91 = .ok (.ldc2_w 264, 3) := by decide +kernel
theorem dX9_year_94 : decode cX9_year 94 = .ok (.iload 4, 2) := by decide +kernel
theorem dX9_year_96 : decode cX9_year 96 = .ok (.i2l, 1) := by decide +kernel
theorem dX9_year_97 : decode cX9_year 97 = .ok (.lmul, 1) := by decide +kernel
theorem dX9_year_98 : decode cX9_year 98 = .ok (.ldc2_w 266, 3) := by decide +kernel
theorem dX9_year_101 : decode cX9_year 101 = .ok (.ladd, 1) := by decide +kernel
theorem dX9_year_102 : decode cX9_year 102 = .ok (.ldc2_w 268, 3) := by decide +kernel
theorem dX9_year_105 : decode cX9_year 105 = .ok (.lrem, 1) := by decide +kernel
theorem dX9_year_106 : decode cX9_year 106 = .ok (.l2i, 1) := by decide +kernel
theorem dX9_year_107 : decode cX9_year 107 = .ok (.istore 4, 2) := by decide +kernel
theorem dX9_year_109 : decode cX9_year 109 = .ok (.iload 4, 2) := by decide +kernel
theorem dX9_year_111 : decode cX9_year 111 = .ok (.iconst 4, 1) := by decide +kernel
theorem dX9_year_112 : decode cX9_year 112 = .ok (.irem, 1) := by decide +kernel
theorem dX9_year_113 : decode cX9_year 113 = .ok (.istore 10, 2) := by decide +kernel
theorem dX9_year_115 : decode cX9_year 115 = .ok (.aload_n 0, 1) := by decide +kernel
theorem dX9_year_116 : decode cX9_year 116 = .ok (.iload 10, 2) := by decide +kernel
theorem dX9_year_118 : decode cX9_year 118 = .ok (.invokevirtual 113, 3) := by decide +kernel
theorem dX9_year_121 : decode cX9_year 121 = .ok (.ifCond .eq 12, 3) := by decide +kernel
theorem dX9_year_124 : decode cX9_year 124 = .ok (.aload_n 0, 1) := by decide +kernel
theorem dX9_year_125 : decode cX9_year 125 = .ok (.iload 10, 2) := by decide +kernel
theorem dX9_year_127 : decode cX9_year 127 = .ok (.invokevirtual 139, 3) := by decide +kernel
theorem dX9_year_130 : decode cX9_year 130 = .ok (.goto 5, 3) := by decide +kernel
theorem dX9_year_133 : decode cX9_year 133 = .ok (.bipush (-6), 2) := by decide +kernel
theorem dX9_year_135 : decode cX9_year 135 = .ok (.istore 11, 2) := by decide +kernel
theorem dX9_year_137 : decode cX9_year 137 = .ok (.iload 11, 2) := by decide +kernel
theorem dX9_year_139 : decode cX9_year 139 = .ok (.ifCond .lt 11, 3) := by decide +kernel
theorem dX9_year_142 : decode cX9_year 142 = .ok (.aload_n 0, 1) := by decide +kernel
theorem dX9_year_143 : decode cX9_year 143 = .ok (.iload 10, 2) := by decide +kernel
theorem dX9_year_145 : decode cX9_year 145 = .ok (.iload 11, 2) := by decide +kernel
theorem dX9_year_147 : decode cX9_year 147 = .ok (.invokevirtual 151, 3) := by decide +kernel
theorem dX9_year_150 : decode cX9_year 150 = .ok (.iload 5, 2) := by decide +kernel
theorem dX9_year_152 : decode cX9_year 152 = .ok (.iload 11, 2) := by decide +kernel
theorem dX9_year_154 : decode cX9_year 154 = .ok (.ifCond .ne 7, 3) := by decide +kernel
theorem dX9_year_157 : decode cX9_year 157 = .ok (.iconst 1, 1) := by decide +kernel
theorem dX9_year_158 : decode cX9_year 158 = .ok (.goto 4, 3) := by decide +kernel
theorem dX9_year_161 : decode cX9_year 161 = .ok (.iconst 0, 1) := by decide +kernel
theorem dX9_year_162 : decode cX9_year 162 = .ok (.iadd, 1) := by decide +kernel
theorem dX9_year_163 : decode cX9_year 163 = .ok (.istore 5, 2) := by decide +kernel
theorem dX9_year_165 : decode cX9_year 165 = .ok (.iinc 9 1, 3) := by decide +kernel
theorem dX9_year_168 : decode cX9_year 168 = .ok (.goto (-83), 3) := by decide +kernel
theorem dX9_year_171 : decode cX9_year 171 = .ok (.iload 6, 2) := by decide +kernel
theorem dX9_year_173 : decode cX9_year 173 = .ok (.aload_n 0, 1) := by decide +kernel
theorem dX9_year_174 : decode cX9_year 174 = .ok (.getfield 136, 3) := by decide +kernel
theorem dX9_year_177 : decode cX9_year 177 = .ok (.iload 8, 2) := by decide +kernel
theorem dX9_year_179 : decode cX9_year 179 = .ok (.if_icmp .ne 7, 3) := by decide +kernel
theorem dX9_year_182 : decode cX9_year 182 = .ok (.iconst 1, 1) := by decide +kernel
theorem dX9_year_183 : decode cX9_year 183 = .ok (.goto 4, 3) := by decide +kernel
theorem dX9_year_186 : decode cX9_year 186 = .ok (.iconst 0, 1) := by decide +kernel
theorem dX9_year_187 : decode cX9_year 187 = .ok (.iadd, 1) := by decide +kernel
theorem dX9_year_188 : decode cX9_year 188 = .ok (.istore 6, 2) := by decide +kernel
theorem dX9_year_190 : decode cX9_year 190 = .ok (.iinc 7 1, 3) := by decide +kernel
theorem dX9_year_193 : decode cX9_year 193 = .ok (.goto (-133), 3) := by decide +kernel
theorem dX9_year_196 : decode cX9_year 196 = .ok (.aload_n 0, 1) := by decide +kernel
theorem dX9_year_197 : decode cX9_year 197 = .ok (.invokevirtual 175, 3) := by decide +kernel
theorem dX9_year_200 : decode cX9_year 200 = .ok (.iload_n 3, 1) := by decide +kernel
theorem dX9_year_201 : decode cX9_year 201 = .ok (.ifCond .ne 10, 3) := by decide +kernel
theorem dX9_year_204 : decode cX9_year 204 = .ok (.aload_n 0, 1) := by decide +kernel
theorem dX9_year_205 : decode cX9_year 205 = .ok (.getfield 136, 3) := by decide +kernel
theorem dX9_year_208 : decode cX9_year 208 = .ok (.goto 15, 3) := by decide +kernel
theorem dX9_year_211 : decode cX9_year 211 = .ok (.iload_n 3, 1) := by decide +kernel
theorem dX9_year_212 : decode cX9_year 212 = .ok (.iconst 1, 1) := by decide +kernel
theorem dX9_year_213 : decode cX9_year 213 = .ok (.if_icmp .ne 8, 3) := by decide +kernel
theorem dX9_year_216 : decode cX9_year 216 = .ok (.iload 5, 2) := by decide +kernel
theorem dX9_year_218 : decode cX9_year 218 = .ok (.goto 5, 3) := by decide +kernel
theorem dX9_year_221 : decode cX9_year 221 = .ok (.iload 6, 2) := by decide +kernel
theorem dX9_year_223 : decode cX9_year 223 = .ok (.ireturn, 1) := by decide +kernel
theorem dX9_pass_0 : decode cX9_pass 0 = .ok (.aload_n 0, 1) := by decide +kernel
theorem dX9_pass_1 : decode cX9_pass 1 = .ok (.getfield 270, 3) := by decide +kernel
theorem dX9_pass_4 : decode cX9_pass 4 = .ok (.ifCond .eq 7, 3) := by decide +kernel
theorem dX9_pass_7 : decode cX9_pass 7 = .ok (.iload_n 1, 1) := by decide +kernel
theorem dX9_pass_8 : decode cX9_pass 8 = .ok (.goto 12, 3) := by decide +kernel
theorem dX9_pass_11 : decode cX9_pass 11 = .ok (.aload_n 0, 1) := by decide +kernel
theorem dX9_pass_12 : decode cX9_pass 12 = .ok (.getfield 73, 3) := by decide +kernel
theorem dX9_pass_15 : decode cX9_pass 15 = .ok (.aload_n 0, 1) := by decide +kernel
theorem dX9_pass_16 : decode cX9_pass 16 = .ok (.getfield 274, 3) := by decide +kernel
theorem dX9_pass_19 : decode cX9_pass 19 = .ok (.iaload, 1) := by decide +kernel
theorem dX9_pass_20 : decode cX9_pass 20 = .ok (.istore_n 2, 1) := by decide +kernel
theorem dX9_pass_21 : decode cX9_pass 21 = .ok (.aload_n 0, 1) := by decide +kernel
theorem dX9_pass_22 : decode cX9_pass 22 = .ok (.getfield 73, 3) := by decide +kernel
theorem dX9_pass_25 : decode cX9_pass 25 = .ok (.aload_n 0, 1) := by decide +kernel
theorem dX9_pass_26 : decode cX9_pass 26 = .ok (.getfield 274, 3) := by decide +kernel
theorem dX9_pass_29 : decode cX9_pass 29 = .ok (.iload_n 2, 1) := by decide +kernel
theorem dX9_pass_30 : decode cX9_pass 30 = .ok (.iastore, 1) := by decide +kernel
theorem dX9_pass_31 : decode cX9_pass 31 = .ok (.aload_n 0, 1) := by decide +kernel
theorem dX9_pass_32 : decode cX9_pass 32 = .ok (.dup, 1) := by decide +kernel
theorem dX9_pass_33 : decode cX9_pass 33 = .ok (.getfield 274, 3) := by decide +kernel
theorem dX9_pass_36 : decode cX9_pass 36 = .ok (.iconst 1, 1) := by decide +kernel
theorem dX9_pass_37 : decode cX9_pass 37 = .ok (.iadd, 1) := by decide +kernel
theorem dX9_pass_38 : decode cX9_pass 38 = .ok (.putfield 274, 3) := by decide +kernel
theorem dX9_pass_41 : decode cX9_pass 41 = .ok (.iload_n 2, 1) := by decide +kernel
theorem dX9_pass_42 : decode cX9_pass 42 = .ok (.ireturn, 1) := by decide +kernel
theorem dX9_passAll_0 : decode cX9_passAll 0 = .ok (.aload_n 0, 1) := by decide +kernel
theorem dX9_passAll_1 : decode cX9_passAll 1 = .ok (.aload_n 0, 1) := by decide +kernel
theorem dX9_passAll_2 : decode cX9_passAll 2 = .ok (.aload_n 0, 1) := by decide +kernel
theorem dX9_passAll_3 : decode cX9_passAll 3 = .ok (.getfield 84, 3) := by decide +kernel
theorem dX9_passAll_6 : decode cX9_passAll 6 = .ok (.invokevirtual 277, 3) := by decide +kernel
theorem dX9_passAll_9 : decode cX9_passAll 9 = .ok (.putfield 84, 3) := by decide +kernel
theorem dX9_passAll_12 : decode cX9_passAll 12 = .ok (.aload_n 0, 1) := by decide +kernel
theorem dX9_passAll_13 : decode cX9_passAll 13 = .ok (.aload_n 0, 1) := by decide +kernel
theorem dX9_passAll_14 : decode cX9_passAll 14 = .ok (.aload_n 0, 1) := by decide +kernel
theorem dX9_passAll_15 : decode cX9_passAll 15 = .ok (.getfield 98, 3) := by decide +kernel
theorem dX9_passAll_18 : decode cX9_passAll 18 = .ok (.invokevirtual 277, 3) := by decide +kernel
theorem dX9_passAll_21 : decode cX9_passAll 21 = .ok (.putfield 98, 3) := by decide +kernel
theorem dX9_passAll_24 : decode cX9_passAll 24 = .ok (.iconst 0, 1) := by decide +kernel
theorem dX9_passAll_25 : decode cX9_passAll 25 = .ok (.istore_n 1, 1) := by decide +kernel
theorem dX9_passAll_26 : decode cX9_passAll 26 = .ok (.iload_n 1, 1) := by decide +kernel
theorem dX9_passAll_27 : decode cX9_passAll 27 = .ok (.bipush 28, 2) := by decide +kernel
theorem dX9_passAll_29 : decode cX9_passAll 29 = .ok (.if_icmp .ge 25, 3) := by decide +kernel
theorem dX9_passAll_32 : decode cX9_passAll 32 = .ok (.aload_n 0, 1) := by decide +kernel
theorem dX9_passAll_33 : decode cX9_passAll 33 = .ok (.getfield 7, 3) := by decide +kernel
theorem dX9_passAll_36 : decode cX9_passAll 36 = .ok (.iload_n 1, 1) := by decide +kernel
theorem dX9_passAll_37 : decode cX9_passAll 37 = .ok (.aload_n 0, 1) := by decide +kernel
theorem dX9_passAll_38 : decode cX9_passAll 38 = .ok (.aload_n 0, 1) := by decide +kernel
theorem dX9_passAll_39 : decode cX9_passAll 39 = .ok (.getfield 7, 3) := by decide +kernel
theorem dX9_passAll_42 : decode cX9_passAll 42 = .ok (.iload_n 1, 1) := by decide +kernel
theorem dX9_passAll_43 : decode cX9_passAll 43 = .ok (.iaload, 1) := by decide +kernel
theorem dX9_passAll_44 : decode cX9_passAll 44 = .ok (.invokevirtual 277, 3) := by decide +kernel
theorem dX9_passAll_47 : decode cX9_passAll 47 = .ok (.iastore, 1) := by decide +kernel
theorem dX9_passAll_48 : decode cX9_passAll 48 = .ok (.iinc 1 1, 3) := by decide +kernel
theorem dX9_passAll_51 : decode cX9_passAll 51 = .ok (.goto (-25), 3) := by decide +kernel
theorem dX9_passAll_54 : decode cX9_passAll 54 = .ok (.iconst 0, 1) := by decide +kernel
theorem dX9_passAll_55 : decode cX9_passAll 55 = .ok (.istore_n 1, 1) := by decide +kernel
theorem dX9_passAll_56 : decode cX9_passAll 56 = .ok (.iload_n 1, 1) := by decide +kernel
theorem dX9_passAll_57 : decode cX9_passAll 57 = .ok (.bipush 7, 2) := by decide +kernel
theorem dX9_passAll_59 : decode cX9_passAll 59 = .ok (.if_icmp .ge 41, 3) := by decide +kernel
theorem dX9_passAll_62 : decode cX9_passAll 62 = .ok (.aload_n 0, 1) := by decide +kernel
theorem dX9_passAll_63 : decode cX9_passAll 63 = .ok (.getfield 13, 3) := by decide +kernel
theorem dX9_passAll_66 : decode cX9_passAll 66 = .ok (.iload_n 1, 1) := by decide +kernel
theorem dX9_passAll_67 : decode cX9_passAll 67 = .ok (.aload_n 0, 1) := by decide +kernel
theorem dX9_passAll_68 : decode cX9_passAll 68 = .ok (.aload_n 0, 1) := by decide +kernel
theorem dX9_passAll_69 : decode cX9_passAll 69 = .ok (.getfield 13, 3) := by decide +kernel
theorem dX9_passAll_72 : decode cX9_passAll 72 = .ok (.iload_n 1, 1) := by decide +kernel
theorem dX9_passAll_73 : decode cX9_passAll 73 = .ok (.iaload, 1) := by decide +kernel
theorem dX9_passAll_74 : decode cX9_passAll 74 = .ok (.invokevirtual 277, 3) := by decide +kernel
theorem dX9_passAll_77 : decode cX9_passAll 77 = .ok (.iastore, 1) := by decide +kernel
theorem dX9_passAll_78 : decode cX9_passAll 78 = .ok (.aload_n 0, 1) := by decide +kernel
theorem dX9_passAll_79 : decode cX9_passAll 79 = .ok (.getfield 16, 3) := by decide +kernel
theorem dX9_passAll_82 : decode cX9_passAll 82 = .ok (.iload_n 1, 1) := by decide +kernel
theorem dX9_passAll_83 : decode cX9_passAll 83 = .ok (.aload_n 0, 1) := by decide +kernel
theorem dX9_passAll_84 : decode cX9_passAll 84 = .ok (.aload_n 0, 1) := by decide +kernel
theorem dX9_passAll_85 : decode cX9_passAll 85 = .ok (.getfield 16, 3) := by decide +kernel
theorem dX9_passAll_88 : decode cX9_passAll 88 = .ok (.iload_n 1, 1) := by decide +kernel
theorem dX9_passAll_89 : decode cX9_passAll 89 = .ok (.iaload, 1) := by decide +kernel
theorem dX9_passAll_90 : decode cX9_passAll 90 = .ok (.invokevirtual 277, 3) := by decide +kernel
theorem dX9_passAll_93 : decode cX9_passAll 93 = .ok (.iastore, 1) := by decide +kernel
theorem dX9_passAll_94 : decode cX9_passAll 94 = .ok (.iinc 1 1, 3) := by decide +kernel
theorem dX9_passAll_97 : decode cX9_passAll 97 = .ok (.goto (-41), 3) := by decide +kernel
theorem dX9_passAll_100 : decode cX9_passAll 100 = .ok (.iconst 0, 1) := by decide +kernel
theorem dX9_passAll_101 : decode cX9_passAll 101 = .ok (.istore_n 1, 1) := by decide +kernel
theorem dX9_passAll_102 : decode cX9_passAll 102 = .ok (.iload_n 1, 1) := by decide +kernel
theorem dX9_passAll_103 : decode cX9_passAll 103 = .ok (.iconst 4, 1) := by decide +kernel
theorem dX9_passAll_104 : decode cX9_passAll 104 = .ok (.if_icmp .ge 73, 3) := by decide +kernel
theorem dX9_passAll_107 : decode cX9_passAll 107 = .ok (.aload_n 0, 1) := by decide +kernel
theorem dX9_passAll_108 : decode cX9_passAll 108 = .ok (.getfield 19, 3) := by decide +kernel
theorem dX9_passAll_111 : decode cX9_passAll 111 = .ok (.iload_n 1, 1) := by decide +kernel
theorem dX9_passAll_112 : decode cX9_passAll 112 = .ok (.aload_n 0, 1) := by decide +kernel
theorem dX9_passAll_113 : decode cX9_passAll 113 = .ok (.aload_n 0, 1) := by decide +kernel
theorem dX9_passAll_114 : decode cX9_passAll 114 = .ok (.getfield 19, 3) := by decide +kernel
theorem dX9_passAll_117 : decode cX9_passAll 117 = .ok (.iload_n 1, 1) := by decide +kernel
theorem dX9_passAll_118 : decode cX9_passAll 118 = .ok (.iaload, 1) := by decide +kernel
theorem dX9_passAll_119 : decode cX9_passAll 119 = .ok (.invokevirtual 277, 3) := by decide +kernel
theorem dX9_passAll_122 : decode cX9_passAll 122 = .ok (.iastore, 1) := by decide +kernel
theorem dX9_passAll_123 : decode cX9_passAll 123 = .ok (.aload_n 0, 1) := by decide +kernel
theorem dX9_passAll_124 : decode cX9_passAll 124 = .ok (.getfield 22, 3) := by decide +kernel
theorem dX9_passAll_127 : decode cX9_passAll 127 = .ok (.iload_n 1, 1) := by decide +kernel
theorem dX9_passAll_128 : decode cX9_passAll 128 = .ok (.aload_n 0, 1) := by decide +kernel
theorem dX9_passAll_129 : decode cX9_passAll 129 = .ok (.aload_n 0, 1) := by decide +kernel
theorem dX9_passAll_130 : decode cX9_passAll 130 = .ok (.getfield 22, 3) := by decide +kernel
theorem dX9_passAll_133 : decode cX9_passAll 133 = .ok (.iload_n 1, 1) := by decide +kernel
theorem dX9_passAll_134 : decode cX9_passAll 134 = .ok (.iaload, 1) := by decide +kernel
theorem dX9_passAll_135 : decode cX9_passAll 135 = .ok (.invokevirtual 277, 3) := by decide +kernel
theorem dX9_passAll_138 : decode cX9_passAll 138 = .ok (.iastore, 1) := by decide +kernel
theorem dX9_passAll_139 : decode cX9_passAll 139 = .ok (.aload_n 0, 1) := by decide +kernel
theorem dX9_passAll_140 : decode cX9_passAll 140 = .ok (.getfield 25, 3) := by decide +kernel
theorem dX9_passAll_143 : decode cX9_passAll 143 = .ok (.iload_n 1, 1) := by decide +kernel
theorem dX9_passAll_144 : decode cX9_passAll 144 = .ok (.aload_n 0, 1) := by decide +kernel
theorem dX9_passAll_145 : decode cX9_passAll 145 = .ok (.aload_n 0, 1) := by decide +kernel
theorem dX9_passAll_146 : decode cX9_passAll 146 = .ok (.getfield 25, 3) := by decide +kernel
theorem dX9_passAll_149 : decode cX9_passAll 149 = .ok (.iload_n 1, 1) := by decide +kernel
theorem dX9_passAll_150 : decode cX9_passAll 150 = .ok (.iaload, 1) := by decide +kernel
theorem dX9_passAll_151 : decode cX9_passAll 151 = .ok (.invokevirtual 277, 3) := by decide +kernel
theorem dX9_passAll_154 : decode cX9_passAll 154 = .ok (.iastore, 1) := by decide +kernel
theorem dX9_passAll_155 : decode cX9_passAll 155 = .ok (.aload_n 0, 1) := by decide +kernel
theorem dX9_passAll_156 : decode cX9_passAll 156 = .ok (.getfield 28, 3) := by decide +kernel
theorem dX9_passAll_159 : decode cX9_passAll 159 = .ok (.iload_n 1, 1) := by decide +kernel
theorem dX9_passAll_160 : decode cX9_passAll 160 = .ok (.aload_n 0, 1) := by decide +kernel
theorem dX9_passAll_161 : decode cX9_passAll 161 = .ok (.aload_n 0, 1) := by decide +kernel
theorem dX9_passAll_162 : decode cX9_passAll 162 = .ok (.getfield 28, 3) := by decide +kernel
theorem dX9_passAll_165 : decode cX9_passAll 165 = .ok (.iload_n 1, 1) := by decide +kernel
theorem dX9_passAll_166 : decode cX9_passAll 166 = .ok (.iaload, 1) := by decide +kernel
theorem dX9_passAll_167 : decode cX9_passAll 167 = .ok (.invokevirtual 277, 3) := by decide +kernel
theorem dX9_passAll_170 : decode cX9_passAll 170 = .ok (.iastore, 1) := by decide +kernel
theorem dX9_passAll_171 : decode cX9_passAll 171 = .ok (.iinc 1 1, 3) := by decide +kernel
theorem dX9_passAll_174 : decode cX9_passAll 174 = .ok (.goto (-72), 3) := by decide +kernel
theorem dX9_passAll_177 : decode cX9_passAll 177 = .ok (.return_, 1) := by decide +kernel
theorem dX9_image_0 : decode cX9_image 0 = .ok (.iload_n 1, 1) := by decide +kernel
theorem dX9_image_1 : decode cX9_image 1 = .ok (.i2l, 1) := by decide +kernel
theorem dX9_image_2 : decode cX9_image 2 = .ok (.lconst 0, 1) := by decide +kernel
theorem dX9_image_3 : decode cX9_image 3 = .ok (.lconst 1, 1) := by decide +kernel
theorem dX9_image_4 : decode cX9_image 4 = .ok (.invokestatic 92, 3) := by decide +kernel
theorem dX9_image_7 : decode cX9_image 7 = .ok (.ifCond .ne 6, 3) := by decide +kernel
theorem dX9_image_10 : decode cX9_image 10 = .ok (.bipush (-2), 2) := by decide +kernel
theorem dX9_image_12 : decode cX9_image 12 = .ok (.ireturn, 1) := by decide +kernel
theorem dX9_image_13 : decode cX9_image 13 = .ok (.aload_n 0, 1) := by decide +kernel
theorem dX9_image_14 : decode cX9_image 14 = .ok (.bipush 80, 2) := by decide +kernel
theorem dX9_image_16 : decode cX9_image 16 = .ok (.iload_n 1, 1) := by decide +kernel
theorem dX9_image_17 : decode cX9_image 17 = .ok (.imul, 1) := by decide +kernel
theorem dX9_image_18 : decode cX9_image 18 = .ok (.putfield 274, 3) := by decide +kernel
theorem dX9_image_21 : decode cX9_image 21 = .ok (.aload_n 0, 1) := by decide +kernel
theorem dX9_image_22 : decode cX9_image 22 = .ok (.iconst 1, 1) := by decide +kernel
theorem dX9_image_23 : decode cX9_image 23 = .ok (.putfield 270, 3) := by decide +kernel
theorem dX9_image_26 : decode cX9_image 26 = .ok (.aload_n 0, 1) := by decide +kernel
theorem dX9_image_27 : decode cX9_image 27 = .ok (.invokevirtual 280, 3) := by decide +kernel
theorem dX9_image_30 : decode cX9_image 30 = .ok (.aload_n 0, 1) := by decide +kernel
theorem dX9_image_31 : decode cX9_image 31 = .ok (.getfield 76, 3) := by decide +kernel
theorem dX9_image_34 : decode cX9_image 34 = .ok (.iload_n 1, 1) := by decide +kernel
theorem dX9_image_35 : decode cX9_image 35 = .ok (.iconst 1, 1) := by decide +kernel
theorem dX9_image_36 : decode cX9_image 36 = .ok (.bastore, 1) := by decide +kernel
theorem dX9_image_37 : decode cX9_image 37 = .ok (.iconst 1, 1) := by decide +kernel
theorem dX9_image_38 : decode cX9_image 38 = .ok (.ireturn, 1) := by decide +kernel
theorem dX9_restore_0 : decode cX9_restore 0 = .ok (.iload_n 1, 1) := by decide +kernel
theorem dX9_restore_1 : decode cX9_restore 1 = .ok (.i2l, 1) := by decide +kernel
theorem dX9_restore_2 : decode cX9_restore 2 = .ok (.lconst 0, 1) := by decide +kernel
theorem dX9_restore_3 : decode cX9_restore 3 = .ok (.lconst 1, 1) := by decide +kernel
theorem dX9_restore_4 : decode cX9_restore 4 = .ok (.invokestatic 92, 3) := by decide +kernel
theorem dX9_restore_7 : decode cX9_restore 7 = .ok (.ifCond .ne 6, 3) := by decide +kernel
theorem dX9_restore_10 : decode cX9_restore 10 = .ok (.bipush (-2), 2) := by decide +kernel
theorem dX9_restore_12 : decode cX9_restore 12 = .ok (.ireturn, 1) := by decide +kernel
theorem dX9_restore_13 : decode cX9_restore 13 = .ok (.aload_n 0, 1) := by decide +kernel
theorem dX9_restore_14 : decode cX9_restore 14 = .ok (.getfield 76, 3) := by decide +kernel
theorem dX9_restore_17 : decode cX9_restore 17 = .ok (.iload_n 1, 1) := by decide +kernel
theorem dX9_restore_18 : decode cX9_restore 18 = .ok (.baload, 1) := by decide +kernel
theorem dX9_restore_19 : decode cX9_restore 19 = .ok (.ifCond .ne 6, 3) := by decide +kernel
theorem dX9_restore_22 : decode cX9_restore 22 = .ok (.bipush (-3), 2) := by decide +kernel
theorem dX9_restore_24 : decode cX9_restore 24 = .ok (.ireturn, 1) := by decide +kernel
theorem dX9_restore_25 : decode cX9_restore 25 = .ok (.aload_n 0, 1) := by decide +kernel
theorem dX9_restore_26 : decode cX9_restore 26 = .ok (.bipush 80, 2) := by decide +kernel
theorem dX9_restore_28 : decode cX9_restore 28 = .ok (.iload_n 1, 1) := by decide +kernel
theorem dX9_restore_29 : decode cX9_restore 29 = .ok (.imul, 1) := by decide +kernel
theorem dX9_restore_30 : decode cX9_restore 30 = .ok (.putfield 274, 3) := by decide +kernel
theorem dX9_restore_33 : decode cX9_restore 33 = .ok (.aload_n 0, 1) := by decide +kernel
theorem dX9_restore_34 : decode cX9_restore 34 = .ok (.iconst 0, 1) := by decide +kernel
theorem dX9_restore_35 : decode cX9_restore 35 = .ok (.putfield 270, 3) := by decide +kernel
theorem dX9_restore_38 : decode cX9_restore 38 = .ok (.aload_n 0, 1) := by decide +kernel
theorem dX9_restore_39 : decode cX9_restore 39 = .ok (.invokevirtual 280, 3) := by decide +kernel
theorem dX9_restore_42 : decode cX9_restore 42 = .ok (.iconst 1, 1) := by decide +kernel
theorem dX9_restore_43 : decode cX9_restore 43 = .ok (.ireturn, 1) := by decide +kernel
theorem dX9_toldOfThing_0 : decode cX9_toldOfThing 0 = .ok (.aload_n 0, 1) := by decide +kernel
theorem dX9_toldOfThing_1 : decode cX9_toldOfThing 1 = .ok (.iload_n 1, 1) := by decide +kernel
theorem dX9_toldOfThing_2 : decode cX9_toldOfThing 2 = .ok (.invokevirtual 103, 3) := by decide +kernel
theorem dX9_toldOfThing_5 : decode cX9_toldOfThing 5 = .ok (.ifCond .eq 8, 3) := by decide +kernel
theorem dX9_toldOfThing_8 : decode cX9_toldOfThing 8 = .ok (.iload_n 2, 1) := by decide +kernel
theorem dX9_toldOfThing_9 : decode cX9_toldOfThing 9 = .ok (.iconst 5, 1) := by decide +kernel
theorem dX9_toldOfThing_10 : decode cX9_toldOfThing 10 = .ok (.if_icmp .le 6, 3) := by decide +kernel
theorem dX9_toldOfThing_13 : decode cX9_toldOfThing 13 = .ok (.bipush (-2), 2) := by decide +kernel
theorem dX9_toldOfThing_15 : decode cX9_toldOfThing 15 = .ok (.ireturn, 1) := by decide +kernel
theorem dX9_toldOfThing_16 : decode cX9_toldOfThing 16 = .ok (.iload_n 2, 1) := by decide +kernel
theorem dX9_toldOfThing_17 : decode cX9_toldOfThing 17 = .ok (.iconst 4, 1) := by decide +kernel
theorem dX9_toldOfThing_18 : decode cX9_toldOfThing 18 = .ok (.if_icmp .ge 16, 3) := by decide +kernel
theorem dX9_toldOfThing_21 : decode cX9_toldOfThing 21 = .ok (.aload_n 0, 1) := by decide +kernel
theorem dX9_toldOfThing_22 : decode cX9_toldOfThing 22 = .ok (.getfield 7, 3) := by decide +kernel
theorem dX9_toldOfThing_25 : decode cX9_toldOfThing 25 = .ok (.iload_n 2, 1) := by decide +kernel
theorem dX9_toldOfThing_26 : decode cX9_toldOfThing 26 = .ok (.iload_n 1, 1) := by decide +kernel
theorem dX9_toldOfThing_27 : decode cX9_toldOfThing 27 = .ok (.invokestatic 88, 3) := by decide +kernel
theorem dX9_toldOfThing_30 : decode cX9_toldOfThing 30 = .ok (.iaload, 1) := by decide +kernel
theorem dX9_toldOfThing_31 : decode cX9_toldOfThing 31 = .ok (.goto 23, 3) := by decide +kernel
theorem dX9_toldOfThing_34 : decode cX9_toldOfThing 34 = .ok (.iload_n 2, 1) := by decide +kernel
theorem dX9_toldOfThing_35 : decode cX9_toldOfThing 35 = .ok (.iconst 4, 1) := by decide +kernel
theorem dX9_toldOfThing_36 : decode cX9_toldOfThing 36 = .ok (.if_icmp .ne 12, 3) := by decide +kernel
theorem dX9_toldOfThing_39 : decode cX9_toldOfThing 39 = .ok (.aload_n 0, 1) := by decide +kernel
theorem dX9_toldOfThing_40 : decode cX9_toldOfThing 40 = .ok (.getfield 13, 3) := by decide +kernel
theorem dX9_toldOfThing_43 : decode cX9_toldOfThing 43 = .ok (.iload_n 1, 1) := by decide +kernel
theorem dX9_toldOfThing_44 : decode cX9_toldOfThing 44 = .ok (.iaload, 1) := by decide +kernel
theorem dX9_toldOfThing_45 : decode cX9_toldOfThing 45 = .ok (.goto 9, 3) := by decide +kernel
theorem dX9_toldOfThing_48 : decode cX9_toldOfThing 48 = .ok (.aload_n 0, 1) := by decide +kernel
theorem dX9_toldOfThing_49 : decode cX9_toldOfThing 49 = .ok (.getfield 16, 3) := by decide +kernel
theorem dX9_toldOfThing_52 : decode cX9_toldOfThing 52 = .ok (.iload_n 1, 1) := by decide +kernel
theorem dX9_toldOfThing_53 : decode cX9_toldOfThing 53 = .ok (.iaload, 1) := by decide +kernel
theorem dX9_toldOfThing_54 : decode cX9_toldOfThing 54 = .ok (.ireturn, 1) := by decide +kernel
theorem dX9_toldOfGuest_0 : decode cX9_toldOfGuest 0 = .ok (.aload_n 0, 1) := by decide +kernel
theorem dX9_toldOfGuest_1 : decode cX9_toldOfGuest 1 = .ok (.iload_n 1, 1) := by decide +kernel
theorem dX9_toldOfGuest_2 : decode cX9_toldOfGuest 2 = .ok (.invokevirtual 113, 3) := by decide +kernel
theorem dX9_toldOfGuest_5 : decode cX9_toldOfGuest 5 = .ok (.ifCond .ne 6, 3) := by decide +kernel
theorem dX9_toldOfGuest_8 : decode cX9_toldOfGuest 8 = .ok (.bipush (-2), 2) := by decide +kernel
theorem dX9_toldOfGuest_10 : decode cX9_toldOfGuest 10 = .ok (.ireturn, 1) := by decide +kernel
theorem dX9_toldOfGuest_11 : decode cX9_toldOfGuest 11 = .ok (.iload_n 2, 1) := by decide +kernel
theorem dX9_toldOfGuest_12 : decode cX9_toldOfGuest 12 = .ok (.ifCond .ne 12, 3) := by decide +kernel
theorem dX9_toldOfGuest_15 : decode cX9_toldOfGuest 15 = .ok (.aload_n 0, 1) := by decide +kernel
theorem dX9_toldOfGuest_16 : decode cX9_toldOfGuest 16 = .ok (.getfield 19, 3) := by decide +kernel
theorem dX9_toldOfGuest_19 : decode cX9_toldOfGuest 19 = .ok (.iload_n 1, 1) := by decide +kernel
theorem dX9_toldOfGuest_20 : decode cX9_toldOfGuest 20 = .ok (.iaload, 1) := by decide +kernel
theorem dX9_toldOfGuest_21 : decode cX9_toldOfGuest 21 = .ok (.goto 47, 3) := by decide +kernel
theorem dX9_toldOfGuest_24 : decode cX9_toldOfGuest 24 = .ok (.iload_n 2, 1) := by decide +kernel
theorem dX9_toldOfGuest_25 : decode cX9_toldOfGuest 25 = .ok (.iconst 1, 1) := by decide +kernel
theorem dX9_toldOfGuest_26 : decode cX9_toldOfGuest 26 = .ok (.if_icmp .ne 12, 3) := by decide +kernel
theorem dX9_toldOfGuest_29 : decode cX9_toldOfGuest 29 = .ok (.aload_n 0, 1) := by decide +kernel
theorem dX9_toldOfGuest_30 : decode cX9_toldOfGuest 30 = .ok (.getfield 22, 3) := by decide +kernel
theorem dX9_toldOfGuest_33 : decode cX9_toldOfGuest 33 = .ok (.iload_n 1, 1) := by decide +kernel
theorem dX9_toldOfGuest_34 : decode cX9_toldOfGuest 34 = .ok (.iaload, 1) := by decide +kernel
theorem dX9_toldOfGuest_35 : decode cX9_toldOfGuest 35 = .ok (.goto 33, 3) := by decide +kernel
theorem dX9_toldOfGuest_38 : decode cX9_toldOfGuest 38 = .ok (.iload_n 2, 1) := by decide +kernel
theorem dX9_toldOfGuest_39 : decode cX9_toldOfGuest 39 = .ok (.iconst 2, 1) := by decide +kernel
theorem dX9_toldOfGuest_40 : decode cX9_toldOfGuest 40 = .ok (.if_icmp .ne 12, 3) := by decide +kernel
theorem dX9_toldOfGuest_43 : decode cX9_toldOfGuest 43 = .ok (.aload_n 0, 1) := by decide +kernel
theorem dX9_toldOfGuest_44 : decode cX9_toldOfGuest 44 = .ok (.getfield 25, 3) := by decide +kernel
theorem dX9_toldOfGuest_47 : decode cX9_toldOfGuest 47 = .ok (.iload_n 1, 1) := by decide +kernel
theorem dX9_toldOfGuest_48 : decode cX9_toldOfGuest 48 = .ok (.iaload, 1) := by decide +kernel
theorem dX9_toldOfGuest_49 : decode cX9_toldOfGuest 49 = .ok (.goto 19, 3) := by decide +kernel
theorem dX9_toldOfGuest_52 : decode cX9_toldOfGuest 52 = .ok (.iload_n 2, 1) := by decide +kernel
theorem dX9_toldOfGuest_53 : decode cX9_toldOfGuest 53 = .ok (.iconst 3, 1) := by decide +kernel
theorem dX9_toldOfGuest_54 : decode cX9_toldOfGuest 54 = .ok (.if_icmp .ne 12, 3) := by decide +kernel
theorem dX9_toldOfGuest_57 : decode cX9_toldOfGuest 57 = .ok (.aload_n 0, 1) := by decide +kernel
theorem dX9_toldOfGuest_58 : decode cX9_toldOfGuest 58 = .ok (.getfield 28, 3) := by decide +kernel
theorem dX9_toldOfGuest_61 : decode cX9_toldOfGuest 61 = .ok (.iload_n 1, 1) := by decide +kernel
theorem dX9_toldOfGuest_62 : decode cX9_toldOfGuest 62 = .ok (.iaload, 1) := by decide +kernel
theorem dX9_toldOfGuest_63 : decode cX9_toldOfGuest 63 = .ok (.goto 5, 3) := by decide +kernel
theorem dX9_toldOfGuest_66 : decode cX9_toldOfGuest 66 = .ok (.bipush (-2), 2) := by decide +kernel
theorem dX9_toldOfGuest_68 : decode cX9_toldOfGuest 68 = .ok (.ireturn, 1) := by decide +kernel
theorem dX9_told_0 : decode cX9_told 0 = .ok (.iload_n 1, 1) := by decide +kernel
theorem dX9_told_1 : decode cX9_told 1 = .ok (.i2l, 1) := by decide +kernel
theorem dX9_told_2 : decode cX9_told 2 = .ok (.ldc2_w 283, 3) := by decide +kernel
theorem dX9_told_5 : decode cX9_told 5 = .ok (.ldc2_w 285, 3) := by decide +kernel
theorem dX9_told_8 : decode cX9_told 8 = .ok (.invokestatic 92, 3) := by decide +kernel
theorem dX9_told_11 : decode cX9_told 11 = .ok (.ifCond .eq 18, 3) := by decide +kernel
theorem dX9_told_14 : decode cX9_told 14 = .ok (.aload_n 0, 1) := by decide +kernel
theorem dX9_told_15 : decode cX9_told 15 = .ok (.iload_n 1, 1) := by decide +kernel
theorem dX9_told_16 : decode cX9_told 16 = .ok (.bipush 100, 2) := by decide +kernel
theorem dX9_told_18 : decode cX9_told 18 = .ok (.idiv, 1) := by decide +kernel
theorem dX9_told_19 : decode cX9_told 19 = .ok (.iconst 1, 1) := by decide +kernel
theorem dX9_told_20 : decode cX9_told 20 = .ok (.isub, 1) := by decide +kernel
theorem dX9_told_21 : decode cX9_told 21 = .ok (.iload_n 1, 1) := by decide +kernel
theorem dX9_told_22 : decode cX9_told 22 = .ok (.bipush 100, 2) := by decide +kernel
theorem dX9_told_24 : decode cX9_told 24 = .ok (.irem, 1) := by decide +kernel
theorem dX9_told_25 : decode cX9_told 25 = .ok (.invokevirtual 287, 3) := by decide +kernel
theorem dX9_told_28 : decode cX9_told 28 = .ok (.ireturn, 1) := by decide +kernel
theorem dX9_told_29 : decode cX9_told 29 = .ok (.iload_n 1, 1) := by decide +kernel
theorem dX9_told_30 : decode cX9_told 30 = .ok (.i2l, 1) := by decide +kernel
theorem dX9_told_31 : decode cX9_told 31 = .ok (.ldc2_w 290, 3) := by decide +kernel
theorem dX9_told_34 : decode cX9_told 34 = .ok (.ldc2_w 292, 3) := by decide +kernel
theorem dX9_told_37 : decode cX9_told 37 = .ok (.invokestatic 92, 3) := by decide +kernel
theorem dX9_told_40 : decode cX9_told 40 = .ok (.ifCond .eq 18, 3) := by decide +kernel
theorem dX9_told_43 : decode cX9_told 43 = .ok (.aload_n 0, 1) := by decide +kernel
theorem dX9_told_44 : decode cX9_told 44 = .ok (.iload_n 1, 1) := by decide +kernel
theorem dX9_told_45 : decode cX9_told 45 = .ok (.bipush 10, 2) := by decide +kernel
theorem dX9_told_47 : decode cX9_told 47 = .ok (.idiv, 1) := by decide +kernel
theorem dX9_told_48 : decode cX9_told 48 = .ok (.iconst 1, 1) := by decide +kernel
theorem dX9_told_49 : decode cX9_told 49 = .ok (.isub, 1) := by decide +kernel
theorem dX9_told_50 : decode cX9_told 50 = .ok (.iload_n 1, 1) := by decide +kernel
theorem dX9_told_51 : decode cX9_told 51 = .ok (.bipush 10, 2) := by decide +kernel
theorem dX9_told_53 : decode cX9_told 53 = .ok (.irem, 1) := by decide +kernel
theorem dX9_told_54 : decode cX9_told 54 = .ok (.invokevirtual 294, 3) := by decide +kernel
theorem dX9_told_57 : decode cX9_told 57 = .ok (.ireturn, 1) := by decide +kernel
theorem dX9_told_58 : decode cX9_told 58 = .ok (.iload_n 1, 1) := by decide +kernel
theorem dX9_told_59 : decode cX9_told 59 = .ok (.ifCond .ne 10, 3) := by decide +kernel
theorem dX9_told_62 : decode cX9_told 62 = .ok (.aload_n 0, 1) := by decide +kernel
theorem dX9_told_63 : decode cX9_told 63 = .ok (.getfield 120, 3) := by decide +kernel
theorem dX9_told_66 : decode cX9_told 66 = .ok (.goto 41, 3) := by decide +kernel
theorem dX9_told_69 : decode cX9_told 69 = .ok (.iload_n 1, 1) := by decide +kernel
theorem dX9_told_70 : decode cX9_told 70 = .ok (.iconst 1, 1) := by decide +kernel
theorem dX9_told_71 : decode cX9_told 71 = .ok (.if_icmp .ne 10, 3) := by decide +kernel
theorem dX9_told_74 : decode cX9_told 74 = .ok (.aload_n 0, 1) := by decide +kernel
theorem dX9_told_75 : decode cX9_told 75 = .ok (.getfield 84, 3) := by decide +kernel
theorem dX9_told_78 : decode cX9_told 78 = .ok (.goto 29, 3) := by decide +kernel
theorem dX9_told_81 : decode cX9_told 81 = .ok (.iload_n 1, 1) := by decide +kernel
theorem dX9_told_82 : decode cX9_told 82 = .ok (.iconst 2, 1) := by decide +kernel
theorem dX9_told_83 : decode cX9_told 83 = .ok (.if_icmp .ne 10, 3) := by decide +kernel
theorem dX9_told_86 : decode cX9_told 86 = .ok (.aload_n 0, 1) := by decide +kernel
theorem dX9_told_87 : decode cX9_told 87 = .ok (.getfield 98, 3) := by decide +kernel
theorem dX9_told_90 : decode cX9_told 90 = .ok (.goto 17, 3) := by decide +kernel
theorem dX9_told_93 : decode cX9_told 93 = .ok (.iload_n 1, 1) := by decide +kernel
theorem dX9_told_94 : decode cX9_told 94 = .ok (.iconst 3, 1) := by decide +kernel
theorem dX9_told_95 : decode cX9_told 95 = .ok (.if_icmp .ne 10, 3) := by decide +kernel
theorem dX9_told_98 : decode cX9_told 98 = .ok (.aload_n 0, 1) := by decide +kernel
theorem dX9_told_99 : decode cX9_told 99 = .ok (.invokevirtual 181, 3) := by decide +kernel
theorem dX9_told_102 : decode cX9_told 102 = .ok (.goto 5, 3) := by decide +kernel
theorem dX9_told_105 : decode cX9_told 105 = .ok (.bipush (-2), 2) := by decide +kernel
theorem dX9_told_107 : decode cX9_told 107 = .ok (.ireturn, 1) := by decide +kernel
