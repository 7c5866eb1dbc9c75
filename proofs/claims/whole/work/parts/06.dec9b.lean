theorem dX9_judge_55 : decode cX9_judge 55 = .ok (.aload_n 0, 1) := by decide +kernel
theorem dX9_judge_56 : decode cX9_judge 56 = .ok (.getfield 145, 3) := by decide +kernel
theorem dX9_judge_59 : decode cX9_judge 59 = .ok (.goto 19, 3) := by decide +kernel
theorem dX9_judge_62 : decode cX9_judge 62 = .ok (.iload_n 1, 1) := by decide +kernel
theorem dX9_judge_63 : decode cX9_judge 63 = .ok (.iconst 2, 1) := by decide +kernel
theorem dX9_judge_64 : decode cX9_judge 64 = .ok (.if_icmp .ne 10, 3) := by decide +kernel
theorem dX9_judge_67 : decode cX9_judge 67 = .ok (.aload_n 0, 1) := by decide +kernel
theorem dX9_judge_68 : decode cX9_judge 68 = .ok (.getfield 148, 3) := by decide +kernel
theorem dX9_judge_71 : decode cX9_judge 71 = .ok (.goto 7, 3) := by decide +kernel
theorem dX9_judge_74 : decode cX9_judge 74 = .ok (.aload_n 0, 1) := by decide +kernel
theorem dX9_judge_75 : decode cX9_judge 75 = .ok (.getfield 136, 3) := by decide +kernel
theorem dX9_judge_78 : decode cX9_judge 78 = .ok (.ireturn, 1) := by decide +kernel
theorem dX9_used_0 : decode cX9_used 0 = .ok (.aload_n 0, 1) := by decide +kernel
theorem dX9_used_1 : decode cX9_used 1 = .ok (.invokevirtual 178, 3) := by decide +kernel
theorem dX9_used_4 : decode cX9_used 4 = .ok (.istore_n 2, 1) := by decide +kernel
theorem dX9_used_5 : decode cX9_used 5 = .ok (.iload_n 2, 1) := by decide +kernel
theorem dX9_used_6 : decode cX9_used 6 = .ok (.bipush (-6), 2) := by decide +kernel
theorem dX9_used_8 : decode cX9_used 8 = .ok (.if_icmp .eq 5, 3) := by decide +kernel
theorem dX9_used_11 : decode cX9_used 11 = .ok (.iload_n 2, 1) := by decide +kernel
theorem dX9_used_12 : decode cX9_used 12 = .ok (.ireturn, 1) := by decide +kernel
theorem dX9_used_13 : decode cX9_used 13 = .ok (.iload_n 1, 1) := by decide +kernel
theorem dX9_used_14 : decode cX9_used 14 = .ok (.i2l, 1) := by decide +kernel
theorem dX9_used_15 : decode cX9_used 15 = .ok (.lconst 0, 1) := by decide +kernel
theorem dX9_used_16 : decode cX9_used 16 = .ok (.aload_n 0, 1) := by decide +kernel
theorem dX9_used_17 : decode cX9_used 17 = .ok (.getfield 120, 3) := by decide +kernel
theorem dX9_used_20 : decode cX9_used 20 = .ok (.iconst 1, 1) := by decide +kernel
theorem dX9_used_21 : decode cX9_used 21 = .ok (.isub, 1) := by decide +kernel
theorem dX9_used_22 : decode cX9_used 22 = .ok (.i2l, 1) := by decide +kernel
theorem dX9_used_23 : decode cX9_used 23 = .ok (.invokestatic 92, 3) := by decide +kernel
theorem dX9_used_26 : decode cX9_used 26 = .ok (.ifCond .eq 12, 3) := by decide +kernel
theorem dX9_used_29 : decode cX9_used 29 = .ok (.aload_n 0, 1) := by decide +kernel
theorem dX9_used_30 : decode cX9_used 30 = .ok (.getfield 40, 3) := by decide +kernel
theorem dX9_used_33 : decode cX9_used 33 = .ok (.iload_n 1, 1) := by decide +kernel
theorem dX9_used_34 : decode cX9_used 34 = .ok (.iaload, 1) := by decide +kernel
theorem dX9_used_35 : decode cX9_used 35 = .ok (.goto 5, 3) := by decide +kernel
theorem dX9_used_38 : decode cX9_used 38 = .ok (.bipush (-2), 2) := by decide +kernel
theorem dX9_used_40 : decode cX9_used 40 = .ok (.ireturn, 1) := by decide +kernel
theorem dX9_behind_0 : decode cX9_behind 0 = .ok (.aload_n 0, 1) := by decide +kernel
theorem dX9_behind_1 : decode cX9_behind 1 = .ok (.iload_n 1, 1) := by decide +kernel
theorem dX9_behind_2 : decode cX9_behind 2 = .ok (.invokevirtual 103, 3) := by decide +kernel
theorem dX9_behind_5 : decode cX9_behind 5 = .ok (.ifCond .ne 5, 3) := by decide +kernel
theorem dX9_behind_8 : decode cX9_behind 8 = .ok (.iconst (-1), 1) := by decide +kernel
theorem dX9_behind_9 : decode cX9_behind 9 = .ok (.ireturn, 1) := by decide +kernel
theorem dX9_behind_10 : decode cX9_behind 10 = .ok (.iload_n 2, 1) := by decide +kernel
theorem dX9_behind_11 : decode cX9_behind 11 = .ok (.i2l, 1) := by decide +kernel
theorem dX9_behind_12 : decode cX9_behind 12 = .ok (.lconst 0, 1) := by decide +kernel
theorem dX9_behind_13 : decode cX9_behind 13 = .ok (.ldc2_w 96, 3) := by decide +kernel
theorem dX9_behind_16 : decode cX9_behind 16 = .ok (.invokestatic 92, 3) := by decide +kernel
theorem dX9_behind_19 : decode cX9_behind 19 = .ok (.ifCond .ne 6, 3) := by decide +kernel
theorem dX9_behind_22 : decode cX9_behind 22 = .ok (.bipush (-2), 2) := by decide +kernel
theorem dX9_behind_24 : decode cX9_behind 24 = .ok (.ireturn, 1) := by decide +kernel
theorem dX9_behind_25 : decode cX9_behind 25 = .ok (.aload_n 0, 1) := by decide +kernel
theorem dX9_behind_26 : decode cX9_behind 26 = .ok (.invokevirtual 178, 3) := by decide +kernel
theorem dX9_behind_29 : decode cX9_behind 29 = .ok (.istore_n 3, 1) := by decide +kernel
theorem dX9_behind_30 : decode cX9_behind 30 = .ok (.iload_n 3, 1) := by decide +kernel
theorem dX9_behind_31 : decode cX9_behind 31 = .ok (.bipush (-6), 2) := by decide +kernel
theorem dX9_behind_33 : decode cX9_behind 33 = .ok (.if_icmp .eq 5, 3) := by decide +kernel
theorem dX9_behind_36 : decode cX9_behind 36 = .ok (.iload_n 3, 1) := by decide +kernel
theorem dX9_behind_37 : decode cX9_behind 37 = .ok (.ireturn, 1) := by decide +kernel
theorem dX9_behind_38 : decode cX9_behind 38 = .ok (.iload_n 2, 1) := by decide +kernel
theorem dX9_behind_39 : decode cX9_behind 39 = .ok (.ifCond .ne 12, 3) := by decide +kernel
theorem dX9_behind_42 : decode cX9_behind 42 = .ok (.aload_n 0, 1) := by decide +kernel
theorem dX9_behind_43 : decode cX9_behind 43 = .ok (.getfield 49, 3) := by decide +kernel
theorem dX9_behind_46 : decode cX9_behind 46 = .ok (.iload_n 1, 1) := by decide +kernel
theorem dX9_behind_47 : decode cX9_behind 47 = .ok (.iaload, 1) := by decide +kernel
theorem dX9_behind_48 : decode cX9_behind 48 = .ok (.goto 37, 3) := by decide +kernel
theorem dX9_behind_51 : decode cX9_behind 51 = .ok (.iload_n 2, 1) := by decide +kernel
theorem dX9_behind_52 : decode cX9_behind 52 = .ok (.iconst 1, 1) := by decide +kernel
theorem dX9_behind_53 : decode cX9_behind 53 = .ok (.if_icmp .ne 12, 3) := by decide +kernel
theorem dX9_behind_56 : decode cX9_behind 56 = .ok (.aload_n 0, 1) := by decide +kernel
theorem dX9_behind_57 : decode cX9_behind 57 = .ok (.getfield 52, 3) := by decide +kernel
theorem dX9_behind_60 : decode cX9_behind 60 = .ok (.iload_n 1, 1) := by decide +kernel
theorem dX9_behind_61 : decode cX9_behind 61 = .ok (.iaload, 1) := by decide +kernel
theorem dX9_behind_62 : decode cX9_behind 62 = .ok (.goto 23, 3) := by decide +kernel
theorem dX9_behind_65 : decode cX9_behind 65 = .ok (.iload_n 2, 1) := by decide +kernel
theorem dX9_behind_66 : decode cX9_behind 66 = .ok (.iconst 2, 1) := by decide +kernel
theorem dX9_behind_67 : decode cX9_behind 67 = .ok (.if_icmp .ne 12, 3) := by decide +kernel
theorem dX9_behind_70 : decode cX9_behind 70 = .ok (.aload_n 0, 1) := by decide +kernel
theorem dX9_behind_71 : decode cX9_behind 71 = .ok (.getfield 43, 3) := by decide +kernel
theorem dX9_behind_74 : decode cX9_behind 74 = .ok (.iload_n 1, 1) := by decide +kernel
theorem dX9_behind_75 : decode cX9_behind 75 = .ok (.iaload, 1) := by decide +kernel
theorem dX9_behind_76 : decode cX9_behind 76 = .ok (.goto 9, 3) := by decide +kernel
theorem dX9_behind_79 : decode cX9_behind 79 = .ok (.aload_n 0, 1) := by decide +kernel
theorem dX9_behind_80 : decode cX9_behind 80 = .ok (.getfield 46, 3) := by decide +kernel
theorem dX9_behind_83 : decode cX9_behind 83 = .ok (.iload_n 1, 1) := by decide +kernel
theorem dX9_behind_84 : decode cX9_behind 84 = .ok (.iaload, 1) := by decide +kernel
theorem dX9_behind_85 : decode cX9_behind 85 = .ok (.ireturn, 1) := by decide +kernel
theorem dX9_done_0 : decode cX9_done 0 = .ok (.aload_n 0, 1) := by decide +kernel
theorem dX9_done_1 : decode cX9_done 1 = .ok (.invokevirtual 178, 3) := by decide +kernel
theorem dX9_done_4 : decode cX9_done 4 = .ok (.istore_n 1, 1) := by decide +kernel
theorem dX9_done_5 : decode cX9_done 5 = .ok (.iload_n 1, 1) := by decide +kernel
theorem dX9_done_6 : decode cX9_done 6 = .ok (.bipush (-6), 2) := by decide +kernel
theorem dX9_done_8 : decode cX9_done 8 = .ok (.if_icmp .eq 5, 3) := by decide +kernel
theorem dX9_done_11 : decode cX9_done 11 = .ok (.iload_n 1, 1) := by decide +kernel
theorem dX9_done_12 : decode cX9_done 12 = .ok (.ireturn, 1) := by decide +kernel
theorem dX9_done_13 : decode cX9_done 13 = .ok (.aload_n 0, 1) := by decide +kernel
theorem dX9_done_14 : decode cX9_done 14 = .ok (.invokevirtual 172, 3) := by decide +kernel
theorem dX9_done_17 : decode cX9_done 17 = .ok (.aload_n 0, 1) := by decide +kernel
theorem dX9_done_18 : decode cX9_done 18 = .ok (.getfield 120, 3) := by decide +kernel
theorem dX9_done_21 : decode cX9_done 21 = .ok (.istore_n 2, 1) := by decide +kernel
theorem dX9_done_22 : decode cX9_done 22 = .ok (.aload_n 0, 1) := by decide +kernel
theorem dX9_done_23 : decode cX9_done 23 = .ok (.iconst 0, 1) := by decide +kernel
theorem dX9_done_24 : decode cX9_done 24 = .ok (.putfield 120, 3) := by decide +kernel
theorem dX9_done_27 : decode cX9_done 27 = .ok (.iload_n 2, 1) := by decide +kernel
theorem dX9_done_28 : decode cX9_done 28 = .ok (.ireturn, 1) := by decide +kernel
theorem dX9_state_0 : decode cX9_state 0 = .ok (.aload_n 0, 1) := by decide +kernel
theorem dX9_state_1 : decode cX9_state 1 = .ok (.iload_n 1, 1) := by decide +kernel
theorem dX9_state_2 : decode cX9_state 2 = .ok (.invokevirtual 103, 3) := by decide +kernel
theorem dX9_state_5 : decode cX9_state 5 = .ok (.ifCond .ne 5, 3) := by decide +kernel
theorem dX9_state_8 : decode cX9_state 8 = .ok (.iconst (-1), 1) := by decide +kernel
theorem dX9_state_9 : decode cX9_state 9 = .ok (.ireturn, 1) := by decide +kernel
theorem dX9_state_10 : decode cX9_state 10 = .ok (.iload_n 2, 1) := by decide +kernel
theorem dX9_state_11 : decode cX9_state 11 = .ok (.ifCond .ne 16, 3) := by decide +kernel
theorem dX9_state_14 : decode cX9_state 14 = .ok (.aload_n 0, 1) := by decide +kernel
theorem dX9_state_15 : decode cX9_state 15 = .ok (.getfield 7, 3) := by decide +kernel
theorem dX9_state_18 : decode cX9_state 18 = .ok (.iconst 3, 1) := by decide +kernel
theorem dX9_state_19 : decode cX9_state 19 = .ok (.iload_n 1, 1) := by decide +kernel
theorem dX9_state_20 : decode cX9_state 20 = .ok (.invokestatic 88, 3) := by decide +kernel
theorem dX9_state_23 : decode cX9_state 23 = .ok (.iaload, 1) := by decide +kernel
theorem dX9_state_24 : decode cX9_state 24 = .ok (.goto 19, 3) := by decide +kernel
theorem dX9_state_27 : decode cX9_state 27 = .ok (.iload_n 2, 1) := by decide +kernel
theorem dX9_state_28 : decode cX9_state 28 = .ok (.iconst 1, 1) := by decide +kernel
theorem dX9_state_29 : decode cX9_state 29 = .ok (.if_icmp .ne 12, 3) := by decide +kernel
theorem dX9_state_32 : decode cX9_state 32 = .ok (.aload_n 0, 1) := by decide +kernel
theorem dX9_state_33 : decode cX9_state 33 = .ok (.getfield 13, 3) := by decide +kernel
theorem dX9_state_36 : decode cX9_state 36 = .ok (.iload_n 1, 1) := by decide +kernel
theorem dX9_state_37 : decode cX9_state 37 = .ok (.iaload, 1) := by decide +kernel
theorem dX9_state_38 : decode cX9_state 38 = .ok (.goto 5, 3) := by decide +kernel
theorem dX9_state_41 : decode cX9_state 41 = .ok (.bipush (-2), 2) := by decide +kernel
theorem dX9_state_43 : decode cX9_state 43 = .ok (.ireturn, 1) := by decide +kernel
theorem dX9_eats_0 : decode cX9_eats 0 = .ok (.aload_n 0, 1) := by decide +kernel
theorem dX9_eats_1 : decode cX9_eats 1 = .ok (.iload_n 1, 1) := by decide +kernel
theorem dX9_eats_2 : decode cX9_eats 2 = .ok (.invokevirtual 113, 3) := by decide +kernel
theorem dX9_eats_5 : decode cX9_eats 5 = .ok (.ifCond .ne 5, 3) := by decide +kernel
theorem dX9_eats_8 : decode cX9_eats 8 = .ok (.iconst (-1), 1) := by decide +kernel
theorem dX9_eats_9 : decode cX9_eats 9 = .ok (.ireturn, 1) := by decide +kernel
theorem dX9_eats_10 : decode cX9_eats 10 = .ok (.aload_n 0, 1) := by decide +kernel
theorem dX9_eats_11 : decode cX9_eats 11 = .ok (.bipush (-6), 2) := by decide +kernel
theorem dX9_eats_13 : decode cX9_eats 13 = .ok (.putfield 127, 3) := by decide +kernel
theorem dX9_eats_16 : decode cX9_eats 16 = .ok (.aload_n 0, 1) := by decide +kernel
theorem dX9_eats_17 : decode cX9_eats 17 = .ok (.iload_n 1, 1) := by decide +kernel
theorem dX9_eats_18 : decode cX9_eats 18 = .ok (.invokevirtual 139, 3) := by decide +kernel
theorem dX9_eats_21 : decode cX9_eats 21 = .ok (.ireturn, 1) := by decide +kernel
theorem dX9_sights_0 : decode cX9_sights 0 = .ok (.iconst 0, 1) := by decide +kernel
theorem dX9_sights_1 : decode cX9_sights 1 = .ok (.istore_n 1, 1) := by decide +kernel
theorem dX9_sights_2 : decode cX9_sights 2 = .ok (.iconst 0, 1) := by decide +kernel
theorem dX9_sights_3 : decode cX9_sights 3 = .ok (.istore_n 2, 1) := by decide +kernel
theorem dX9_sights_4 : decode cX9_sights 4 = .ok (.iload_n 2, 1) := by decide +kernel
theorem dX9_sights_5 : decode cX9_sights 5 = .ok (.aload_n 0, 1) := by decide +kernel
theorem dX9_sights_6 : decode cX9_sights 6 = .ok (.getfield 84, 3) := by decide +kernel
theorem dX9_sights_9 : decode cX9_sights 9 = .ok (.if_icmp .ge 28, 3) := by decide +kernel
theorem dX9_sights_12 : decode cX9_sights 12 = .ok (.iload_n 1, 1) := by decide +kernel
theorem dX9_sights_13 : decode cX9_sights 13 = .ok (.aload_n 0, 1) := by decide +kernel
theorem dX9_sights_14 : decode cX9_sights 14 = .ok (.getfield 16, 3) := by decide +kernel
theorem dX9_sights_17 : decode cX9_sights 17 = .ok (.iload_n 2, 1) := by decide +kernel
theorem dX9_sights_18 : decode cX9_sights 18 = .ok (.iaload, 1) := by decide +kernel
theorem dX9_sights_19 : decode cX9_sights 19 = .ok (.ifCond .lt 9, 3) := by decide +kernel
theorem dX9_sights_22 : decode cX9_sights 22 = .ok (.iconst 1, 1) := by decide +kernel
theorem dX9_sights_23 : decode cX9_sights 23 = .ok (.iload_n 2, 1) := by decide +kernel
theorem dX9_sights_24 : decode cX9_sights 24 = .ok (.ishl, 1) := by decide +kernel
theorem dX9_sights_25 : decode cX9_sights 25 = .ok (.goto 4, 3) := by decide +kernel
theorem dX9_sights_28 : decode cX9_sights 28 = .ok (.iconst 0, 1) := by decide +kernel
theorem dX9_sights_29 : decode cX9_sights 29 = .ok (.ior, 1) := by decide +kernel
theorem dX9_sights_30 : decode cX9_sights 30 = .ok (.istore_n 1, 1) := by decide +kernel
theorem dX9_sights_31 : decode cX9_sights 31 = .ok (.iinc 2 1, 3) := by decide +kernel
theorem dX9_sights_34 : decode cX9_sights 34 = .ok (.goto (-30), 3) := by decide +kernel
theorem dX9_sights_37 : decode cX9_sights 37 = .ok (.iload_n 1, 1) := by decide +kernel
theorem dX9_sights_38 : decode cX9_sights 38 = .ok (.ireturn, 1) := by decide +kernel
theorem dX9_seen_0 : decode cX9_seen 0 = .ok (.aload_n 0, 1) := by decide +kernel
theorem dX9_seen_1 : decode cX9_seen 1 = .ok (.iload_n 1, 1) := by decide +kernel
theorem dX9_seen_2 : decode cX9_seen 2 = .ok (.invokevirtual 103, 3) := by decide +kernel
theorem dX9_seen_5 : decode cX9_seen 5 = .ok (.ifCond .ne 5, 3) := by decide +kernel
theorem dX9_seen_8 : decode cX9_seen 8 = .ok (.iconst (-1), 1) := by decide +kernel
theorem dX9_seen_9 : decode cX9_seen 9 = .ok (.ireturn, 1) := by decide +kernel
theorem dX9_seen_10 : decode cX9_seen 10 = .ok (.iload_n 2, 1) := by decide +kernel
theorem dX9_seen_11 : decode cX9_seen 11 = .ok (.i2l, 1) := by decide +kernel
theorem dX9_seen_12 : decode cX9_seen 12 = .ok (.lconst 0, 1) := by decide +kernel
theorem dX9_seen_13 : decode cX9_seen 13 = .ok (.ldc2_w 107, 3) := by decide +kernel
theorem dX9_seen_16 : decode cX9_seen 16 = .ok (.invokestatic 92, 3) := by decide +kernel
theorem dX9_seen_19 : decode cX9_seen 19 = .ok (.ifCond .ne 6, 3) := by decide +kernel
theorem dX9_seen_22 : decode cX9_seen 22 = .ok (.bipush (-2), 2) := by decide +kernel
theorem dX9_seen_24 : decode cX9_seen 24 = .ok (.ireturn, 1) := by decide +kernel
theorem dX9_seen_25 : decode cX9_seen 25 = .ok (.aload_n 0, 1) := by decide +kernel
theorem dX9_seen_26 : decode cX9_seen 26 = .ok (.getfield 16, 3) := by decide +kernel
theorem dX9_seen_29 : decode cX9_seen 29 = .ok (.iload_n 1, 1) := by decide +kernel
theorem dX9_seen_30 : decode cX9_seen 30 = .ok (.iload_n 2, 1) := by decide +kernel
theorem dX9_seen_31 : decode cX9_seen 31 = .ok (.iastore, 1) := by decide +kernel
theorem dX9_seen_32 : decode cX9_seen 32 = .ok (.aload_n 0, 1) := by decide +kernel
theorem dX9_seen_33 : decode cX9_seen 33 = .ok (.invokevirtual 181, 3) := by decide +kernel
theorem dX9_seen_36 : decode cX9_seen 36 = .ok (.invokestatic 109, 3) := by decide +kernel
theorem dX9_seen_39 : decode cX9_seen 39 = .ok (.ireturn, 1) := by decide +kernel
theorem dX9_forget_0 : decode cX9_forget 0 = .ok (.aload_n 0, 1) := by decide +kernel
theorem dX9_forget_1 : decode cX9_forget 1 = .ok (.invokevirtual 181, 3) := by decide +kernel
theorem dX9_forget_4 : decode cX9_forget 4 = .ok (.invokestatic 109, 3) := by decide +kernel
theorem dX9_forget_7 : decode cX9_forget 7 = .ok (.istore_n 1, 1) := by decide +kernel
theorem dX9_forget_8 : decode cX9_forget 8 = .ok (.iconst 0, 1) := by decide +kernel
theorem dX9_forget_9 : decode cX9_forget 9 = .ok (.istore_n 2, 1) := by decide +kernel
theorem dX9_forget_10 : decode cX9_forget 10 = .ok (.iload_n 2, 1) := by decide +kernel
theorem dX9_forget_11 : decode cX9_forget 11 = .ok (.bipush 7, 2) := by decide +kernel
theorem dX9_forget_13 : decode cX9_forget 13 = .ok (.if_icmp .ge 17, 3) := by decide +kernel
theorem dX9_forget_16 : decode cX9_forget 16 = .ok (.aload_n 0, 1) := by decide +kernel
theorem dX9_forget_17 : decode cX9_forget 17 = .ok (.getfield 16, 3) := by decide +kernel
theorem dX9_forget_20 : decode cX9_forget 20 = .ok (.iload_n 2, 1) := by decide +kernel
theorem dX9_forget_21 : decode cX9_forget 21 = .ok (.bipush (-6), 2) := by decide +kernel
theorem dX9_forget_23 : decode cX9_forget 23 = .ok (.iastore, 1) := by decide +kernel
theorem dX9_forget_24 : decode cX9_forget 24 = .ok (.iinc 2 1, 3) := by decide +kernel
theorem dX9_forget_27 : decode cX9_forget 27 = .ok (.goto (-17), 3) := by decide +kernel
theorem dX9_forget_30 : decode cX9_forget 30 = .ok (.iload_n 1, 1) := by decide +kernel
theorem dX9_forget_31 : decode cX9_forget 31 = .ok (.ireturn, 1) := by decide +kernel
theorem dX9_isSeenSo_0 : decode cX9_isSeenSo 0 = .ok (.iconst 1, 1) := by decide +kernel
theorem dX9_isSeenSo_1 : decode cX9_isSeenSo 1 = .ok (.istore_n 1, 1) := by decide +kernel
theorem dX9_isSeenSo_2 : decode cX9_isSeenSo 2 = .ok (.iconst 0, 1) := by decide +kernel
theorem dX9_isSeenSo_3 : decode cX9_isSeenSo 3 = .ok (.istore_n 2, 1) := by decide +kernel
theorem dX9_isSeenSo_4 : decode cX9_isSeenSo 4 = .ok (.iload_n 2, 1) := by decide +kernel
theorem dX9_isSeenSo_5 : decode cX9_isSeenSo 5 = .ok (.aload_n 0, 1) := by decide +kernel
theorem dX9_isSeenSo_6 : decode cX9_isSeenSo 6 = .ok (.getfield 84, 3) := by decide +kernel
theorem dX9_isSeenSo_9 : decode cX9_isSeenSo 9 = .ok (.if_icmp .ge 47, 3) := by decide +kernel
theorem dX9_isSeenSo_12 : decode cX9_isSeenSo 12 = .ok (.iload_n 1, 1) := by decide +kernel
theorem dX9_isSeenSo_13 : decode cX9_isSeenSo 13 = .ok (.ifCond .eq 35, 3) := by decide +kernel
theorem dX9_isSeenSo_16 : decode cX9_isSeenSo 16 = .ok (.aload_n 0, 1) := by decide +kernel
theorem dX9_isSeenSo_17 : decode cX9_isSeenSo 17 = .ok (.getfield 16, 3) := by decide +kernel
theorem dX9_isSeenSo_20 : decode cX9_isSeenSo 20 = .ok (.iload_n 2, 1) := by decide +kernel
theorem dX9_isSeenSo_21 : decode cX9_isSeenSo 21 = .ok (.iaload, 1) := by decide +kernel
theorem dX9_isSeenSo_22 : decode cX9_isSeenSo 22 = .ok (.ifCond .lt 22, 3) := by decide +kernel
theorem dX9_isSeenSo_25 : decode cX9_isSeenSo 25 = .ok (.aload_n 0, 1) := by decide +kernel
theorem dX9_isSeenSo_26 : decode cX9_isSeenSo 26 = .ok (.getfield 16, 3) := by decide +kernel
theorem dX9_isSeenSo_29 : decode cX9_isSeenSo 29 = .ok (.iload_n 2, 1) := by decide +kernel
theorem dX9_isSeenSo_30 : decode cX9_isSeenSo 30 = .ok (.iaload, 1) := by decide +kernel
theorem dX9_isSeenSo_31 : decode cX9_isSeenSo 31 = .ok (.aload_n 0, 1) := by decide +kernel
theorem dX9_isSeenSo_32 : decode cX9_isSeenSo 32 = .ok (.getfield 7, 3) := by decide +kernel
theorem dX9_isSeenSo_35 : decode cX9_isSeenSo 35 = .ok (.iconst 3, 1) := by decide +kernel
theorem dX9_isSeenSo_36 : decode cX9_isSeenSo 36 = .ok (.iload_n 2, 1) := by decide +kernel
theorem dX9_isSeenSo_37 : decode cX9_isSeenSo 37 = .ok (.invokestatic 88, 3) := by decide +kernel
theorem dX9_isSeenSo_40 : decode cX9_isSeenSo 40 = .ok (.iaload, 1) := by decide +kernel
theorem dX9_isSeenSo_41 : decode cX9_isSeenSo 41 = .ok (.if_icmp .ne 7, 3) := by decide +kernel
theorem dX9_isSeenSo_44 : decode cX9_isSeenSo 44 = .ok (.iconst 1, 1) := by decide +kernel
theorem dX9_isSeenSo_45 : decode cX9_isSeenSo 45 = .ok (.goto 4, 3) := by decide +kernel
theorem dX9_isSeenSo_48 : decode cX9_isSeenSo 48 = .ok (.iconst 0, 1) := by decide +kernel
theorem dX9_isSeenSo_49 : decode cX9_isSeenSo 49 = .ok (.istore_n 1, 1) := by decide +kernel
theorem dX9_isSeenSo_50 : decode cX9_isSeenSo 50 = .ok (.iinc 2 1, 3) := by decide +kernel
theorem dX9_isSeenSo_53 : decode cX9_isSeenSo 53 = .ok (.goto (-49), 3) := by decide +kernel
theorem dX9_isSeenSo_56 : decode cX9_isSeenSo 56 = .ok (.iload_n 1, 1) := by decide +kernel
theorem dX9_isSeenSo_57 : decode cX9_isSeenSo 57 = .ok (.ireturn, 1) := by decide +kernel
theorem dX9_power_0 : decode cX9_power 0 = .ok (.iconst 1, 1) := by decide +kernel
theorem dX9_power_1 : decode cX9_power 1 = .ok (.istore_n 2, 1) := by decide +kernel
theorem dX9_power_2 : decode cX9_power 2 = .ok (.iconst 0, 1) := by decide +kernel
theorem dX9_power_3 : decode cX9_power 3 = .ok (.istore_n 3, 1) := by decide +kernel
theorem dX9_power_4 : decode cX9_power 4 = .ok (.iload_n 3, 1) := by decide +kernel
theorem dX9_power_5 : decode cX9_power 5 = .ok (.iload_n 1, 1) := by decide +kernel
theorem dX9_power_6 : decode cX9_power 6 = .ok (.if_icmp .ge 13, 3) := by decide +kernel
theorem dX9_power_9 : decode cX9_power 9 = .ok (.iload_n 2, 1) := by decide +kernel
theorem dX9_power_10 : decode cX9_power 10 = .ok (.iload_n 0, 1) := by decide +kernel
theorem dX9_power_11 : decode cX9_power 11 = .ok (.imul, 1) := by decide +kernel
theorem dX9_power_12 : decode cX9_power 12 = .ok (.istore_n 2, 1) := by decide +kernel
theorem dX9_power_13 : decode cX9_power 13 = .ok (.iinc 3 1, 3) := by decide +kernel
theorem dX9_power_16 : decode cX9_power 16 = .ok (.goto (-12), 3) := by decide +kernel
theorem dX9_power_19 : decode cX9_power 19 = .ok (.iload_n 2, 1) := by decide +kernel
theorem dX9_power_20 : decode cX9_power 20 = .ok (.ireturn, 1) := by decide +kernel
theorem dX9_layRow_0 : decode cX9_layRow 0 = .ok (.iload_n 1, 1) := by decide +kernel
theorem dX9_layRow_1 : decode cX9_layRow 1 = .ok (.istore_n 3, 1) := by decide +kernel
theorem dX9_layRow_2 : decode cX9_layRow 2 = .ok (.aload_n 0, 1) := by decide +kernel
theorem dX9_layRow_3 : decode cX9_layRow 3 = .ok (.iconst 0, 1) := by decide +kernel
theorem dX9_layRow_4 : decode cX9_layRow 4 = .ok (.putfield 184, 3) := by decide +kernel
theorem dX9_layRow_7 : decode cX9_layRow 7 = .ok (.iload_n 2, 1) := by decide +kernel
theorem dX9_layRow_8 : decode cX9_layRow 8 = .ok (.iconst 1, 1) := by decide +kernel
theorem dX9_layRow_9 : decode cX9_layRow 9 = .ok (.isub, 1) := by decide +kernel
theorem dX9_layRow_10 : decode cX9_layRow 10 = .ok (.istore 4, 2) := by decide +kernel
theorem dX9_layRow_12 : decode cX9_layRow 12 = .ok (.iload 4, 2) := by decide +kernel
theorem dX9_layRow_14 : decode cX9_layRow 14 = .ok (.ifCond .lt 41, 3) := by decide +kernel
theorem dX9_layRow_17 : decode cX9_layRow 17 = .ok (.aload_n 0, 1) := by decide +kernel
theorem dX9_layRow_18 : decode cX9_layRow 18 = .ok (.getfield 55, 3) := by decide +kernel
theorem dX9_layRow_21 : decode cX9_layRow 21 = .ok (.iload 4, 2) := by decide +kernel
theorem dX9_layRow_23 : decode cX9_layRow 23 = .ok (.iload_n 3, 1) := by decide +kernel
theorem dX9_layRow_24 : decode cX9_layRow 24 = .ok (.iconst 4, 1) := by decide +kernel
theorem dX9_layRow_25 : decode cX9_layRow 25 = .ok (.irem, 1) := by decide +kernel
theorem dX9_layRow_26 : decode cX9_layRow 26 = .ok (.iastore, 1) := by decide +kernel
theorem dX9_layRow_27 : decode cX9_layRow 27 = .ok (.aload_n 0, 1) := by decide +kernel
theorem dX9_layRow_28 : decode cX9_layRow 28 = .ok (.dup, 1) := by decide +kernel
theorem dX9_layRow_29 : decode cX9_layRow 29 = .ok (.getfield 184, 3) := by decide +kernel
theorem dX9_layRow_32 : decode cX9_layRow 32 = .ok (.iconst 1, 1) := by decide +kernel
theorem dX9_layRow_33 : decode cX9_layRow 33 = .ok (.aload_n 0, 1) := by decide +kernel
theorem dX9_layRow_34 : decode cX9_layRow 34 = .ok (.getfield 55, 3) := by decide +kernel
theorem dX9_layRow_37 : decode cX9_layRow 37 = .ok (.iload 4, 2) := by decide +kernel
theorem dX9_layRow_39 : decode cX9_layRow 39 = .ok (.iaload, 1) := by decide +kernel
theorem dX9_layRow_40 : decode cX9_layRow 40 = .ok (.ishl, 1) := by decide +kernel
theorem dX9_layRow_41 : decode cX9_layRow 41 = .ok (.ior, 1) := by decide +kernel
theorem dX9_layRow_42 : decode cX9_layRow 42 = .ok (.putfield 184, 3) := by decide +kernel
theorem dX9_layRow_45 : decode cX9_layRow 45 = .ok (.iload_n 3, 1) := by decide +kernel
theorem dX9_layRow_46 : decode cX9_layRow 46 = .ok (.iconst 4, 1) := by decide +kernel
theorem dX9_layRow_47 : decode cX9_layRow 47 = .ok (.idiv, 1) := by decide +kernel
theorem dX9_layRow_48 : decode cX9_layRow 48 = .ok (.istore_n 3, 1) := by decide +kernel
theorem dX9_layRow_49 : decode cX9_layRow 49 = .ok (.iinc 4 (-1), 3) := by decide +kernel
theorem dX9_layRow_52 : decode cX9_layRow 52 = .ok (.goto (-40), 3) := by decide +kernel
theorem dX9_layRow_55 : decode cX9_layRow 55 = .ok (.return_, 1) := by decide +kernel
theorem dX9_canGo_0 : decode cX9_canGo 0 = .ok (.aload_n 0, 1) := by decide +kernel
theorem dX9_canGo_1 : decode cX9_canGo 1 = .ok (.invokevirtual 175, 3) := by decide +kernel
theorem dX9_canGo_4 : decode cX9_canGo 4 = .ok (.aload_n 0, 1) := by decide +kernel
theorem dX9_canGo_5 : decode cX9_canGo 5 = .ok (.bipush (-6), 2) := by decide +kernel
theorem dX9_canGo_7 : decode cX9_canGo 7 = .ok (.putfield 127, 3) := by decide +kernel
theorem dX9_canGo_10 : decode cX9_canGo 10 = .ok (.iconst 0, 1) := by decide +kernel
theorem dX9_canGo_11 : decode cX9_canGo 11 = .ok (.istore_n 2, 1) := by decide +kernel
theorem dX9_canGo_12 : decode cX9_canGo 12 = .ok (.iload_n 2, 1) := by decide +kernel
theorem dX9_canGo_13 : decode cX9_canGo 13 = .ok (.bipush 7, 2) := by decide +kernel
theorem dX9_canGo_15 : decode cX9_canGo 15 = .ok (.if_icmp .ge 17, 3) := by decide +kernel
theorem dX9_canGo_18 : decode cX9_canGo 18 = .ok (.aload_n 0, 1) := by decide +kernel
theorem dX9_canGo_19 : decode cX9_canGo 19 = .ok (.getfield 43, 3) := by decide +kernel
theorem dX9_canGo_22 : decode cX9_canGo 22 = .ok (.iload_n 2, 1) := by decide +kernel
theorem dX9_canGo_23 : decode cX9_canGo 23 = .ok (.bipush (-6), 2) := by decide +kernel
theorem dX9_canGo_25 : decode cX9_canGo 25 = .ok (.iastore, 1) := by decide +kernel
theorem dX9_canGo_26 : decode cX9_canGo 26 = .ok (.iinc 2 1, 3) := by decide +kernel
theorem dX9_canGo_29 : decode cX9_canGo 29 = .ok (.goto (-17), 3) := by decide +kernel
theorem dX9_canGo_32 : decode cX9_canGo 32 = .ok (.iconst 0, 1) := by decide +kernel
theorem dX9_canGo_33 : decode cX9_canGo 33 = .ok (.istore_n 2, 1) := by decide +kernel
theorem dX9_canGo_34 : decode cX9_canGo 34 = .ok (.iload_n 2, 1) := by decide +kernel
theorem dX9_canGo_35 : decode cX9_canGo 35 = .ok (.iload_n 1, 1) := by decide +kernel
theorem dX9_canGo_36 : decode cX9_canGo 36 = .ok (.if_icmp .ge 85, 3) := by decide +kernel
theorem dX9_canGo_39 : decode cX9_canGo 39 = .ok (.aload_n 0, 1) := by decide +kernel
theorem dX9_canGo_40 : decode cX9_canGo 40 = .ok (.aload_n 0, 1) := by decide +kernel
theorem dX9_canGo_41 : decode cX9_canGo 41 = .ok (.getfield 55, 3) := by decide +kernel
theorem dX9_canGo_44 : decode cX9_canGo 44 = .ok (.iload_n 2, 1) := by decide +kernel
theorem dX9_canGo_45 : decode cX9_canGo 45 = .ok (.iaload, 1) := by decide +kernel
theorem dX9_canGo_46 : decode cX9_canGo 46 = .ok (.invokevirtual 113, 3) := by decide +kernel
theorem dX9_canGo_49 : decode cX9_canGo 49 = .ok (.ifCond .eq 16, 3) := by decide +kernel
theorem dX9_canGo_52 : decode cX9_canGo 52 = .ok (.aload_n 0, 1) := by decide +kernel
theorem dX9_canGo_53 : decode cX9_canGo 53 = .ok (.aload_n 0, 1) := by decide +kernel
theorem dX9_canGo_54 : decode cX9_canGo 54 = .ok (.getfield 55, 3) := by decide +kernel
theorem dX9_canGo_57 : decode cX9_canGo 57 = .ok (.iload_n 2, 1) := by decide +kernel
theorem dX9_canGo_58 : decode cX9_canGo 58 = .ok (.iaload, 1) := by decide +kernel
theorem dX9_canGo_59 : decode cX9_canGo 59 = .ok (.invokevirtual 139, 3) := by decide +kernel
theorem dX9_canGo_62 : decode cX9_canGo 62 = .ok (.goto 5, 3) := by decide +kernel
theorem dX9_canGo_65 : decode cX9_canGo 65 = .ok (.bipush (-6), 2) := by decide +kernel
theorem dX9_canGo_67 : decode cX9_canGo 67 = .ok (.istore_n 3, 1) := by decide +kernel
theorem dX9_canGo_68 : decode cX9_canGo 68 = .ok (.iload_n 3, 1) := by decide +kernel
theorem dX9_canGo_69 : decode cX9_canGo 69 = .ok (.ifCond .ge 5, 3) := by decide +kernel
theorem dX9_canGo_72 : decode cX9_canGo 72 = .ok (.iconst 0, 1) := by decide +kernel
theorem dX9_canGo_73 : decode cX9_canGo 73 = .ok (.ireturn, 1) := by decide +kernel
theorem dX9_canGo_74 : decode cX9_canGo 74 = .ok (.aload_n 0, 1) := by decide +kernel
theorem dX9_canGo_75 : decode cX9_canGo 75 = .ok (.getfield 43, 3) := by decide +kernel
theorem dX9_canGo_78 : decode cX9_canGo 78 = .ok (.iload_n 3, 1) := by decide +kernel
theorem dX9_canGo_79 : decode cX9_canGo 79 = .ok (.aload_n 0, 1) := by decide +kernel
theorem dX9_canGo_80 : decode cX9_canGo 80 = .ok (.getfield 43, 3) := by decide +kernel
theorem dX9_canGo_83 : decode cX9_canGo 83 = .ok (.iload_n 3, 1) := by decide +kernel
theorem dX9_canGo_84 : decode cX9_canGo 84 = .ok (.iaload, 1) := by decide +kernel
theorem dX9_canGo_85 : decode cX9_canGo 85 = .ok (.ifCond .ge 12, 3) := by decide +kernel
theorem dX9_canGo_88 : decode cX9_canGo 88 = .ok (.aload_n 0, 1) := by decide +kernel
theorem dX9_canGo_89 : decode cX9_canGo 89 = .ok (.getfield 55, 3) := by decide +kernel
theorem dX9_canGo_92 : decode cX9_canGo 92 = .ok (.iload_n 2, 1) := by decide +kernel
theorem dX9_canGo_93 : decode cX9_canGo 93 = .ok (.iaload, 1) := by decide +kernel
theorem dX9_canGo_94 : decode cX9_canGo 94 = .ok (.goto 9, 3) := by decide +kernel
theorem dX9_canGo_97 : decode cX9_canGo 97 = .ok (.aload_n 0, 1) := by decide +kernel
theorem dX9_canGo_98 : decode cX9_canGo 98 = .ok (.getfield 43, 3) := by decide +kernel
theorem dX9_canGo_101 : decode cX9_canGo 101 = .ok (.iload_n 3, 1) := by decide +kernel
theorem dX9_canGo_102 : decode cX9_canGo 102 = .ok (.iaload, 1) := by decide +kernel
theorem dX9_canGo_103 : decode cX9_canGo 103 = .ok (.iastore, 1) := by decide +kernel
theorem dX9_canGo_104 : decode cX9_canGo 104 = .ok (.aload_n 0, 1) := by decide +kernel
theorem dX9_canGo_105 : decode cX9_canGo 105 = .ok (.aload_n 0, 1) := by decide +kernel
theorem dX9_canGo_106 : decode cX9_canGo 106 = .ok (.getfield 55, 3) := by decide +kernel
theorem dX9_canGo_109 : decode cX9_canGo 109 = .ok (.iload_n 2, 1) := by decide +kernel
theorem dX9_canGo_110 : decode cX9_canGo 110 = .ok (.iaload, 1) := by decide +kernel
theorem dX9_canGo_111 : decode cX9_canGo 111 = .ok (.iload_n 3, 1) := by decide +kernel
theorem dX9_canGo_112 : decode cX9_canGo 112 = .ok (.invokevirtual 151, 3) := by decide +kernel
theorem dX9_canGo_115 : decode cX9_canGo 115 = .ok (.iinc 2 1, 3) := by decide +kernel
theorem dX9_canGo_118 : decode cX9_canGo 118 = .ok (.goto (-84), 3) := by decide +kernel
theorem dX9_canGo_121 : decode cX9_canGo 121 = .ok (.iconst 1, 1) := by decide +kernel
theorem dX9_canGo_122 : decode cX9_canGo 122 = .ok (.ireturn, 1) := by decide +kernel
theorem dX9_countRow_0 : decode cX9_countRow 0 = .ok (.aload_n 0, 1) := by decide +kernel
theorem dX9_countRow_1 : decode cX9_countRow 1 = .ok (.getfield 187, 3) := by decide +kernel
theorem dX9_countRow_4 : decode cX9_countRow 4 = .ok (.ifCond .ne 33, 3) := by decide +kernel
theorem dX9_countRow_7 : decode cX9_countRow 7 = .ok (.aload_n 0, 1) := by decide +kernel
theorem dX9_countRow_8 : decode cX9_countRow 8 = .ok (.iload_n 1, 1) := by decide +kernel
theorem dX9_countRow_9 : decode cX9_countRow 9 = .ok (.putfield 190, 3) := by decide +kernel
theorem dX9_countRow_12 : decode cX9_countRow 12 = .ok (.iconst 0, 1) := by decide +kernel
theorem dX9_countRow_13 : decode cX9_countRow 13 = .ok (.istore_n 2, 1) := by decide +kernel
theorem dX9_countRow_14 : decode cX9_countRow 14 = .ok (.iload_n 2, 1) := by decide +kernel
theorem dX9_countRow_15 : decode cX9_countRow 15 = .ok (.iload_n 1, 1) := by decide +kernel
theorem dX9_countRow_16 : decode cX9_countRow 16 = .ok (.if_icmp .ge 21, 3) := by decide +kernel
theorem dX9_countRow_19 : decode cX9_countRow 19 = .ok (.aload_n 0, 1) := by decide +kernel
theorem dX9_countRow_20 : decode cX9_countRow 20 = .ok (.getfield 58, 3) := by decide +kernel
theorem dX9_countRow_23 : decode cX9_countRow 23 = .ok (.iload_n 2, 1) := by decide +kernel
theorem dX9_countRow_24 : decode cX9_countRow 24 = .ok (.aload_n 0, 1) := by decide +kernel
theorem dX9_countRow_25 : decode cX9_countRow 25 = .ok (.getfield 55, 3) := by decide +kernel
theorem dX9_countRow_28 : decode cX9_countRow 28 = .ok (.iload_n 2, 1) := by decide +kernel
theorem dX9_countRow_29 : decode cX9_countRow 29 = .ok (.iaload, 1) := by decide +kernel
theorem dX9_countRow_30 : decode cX9_countRow 30 = .ok (.iastore, 1) := by decide +kernel
theorem dX9_countRow_31 : decode cX9_countRow 31 = .ok (.iinc 2 1, 3) := by decide +kernel
theorem dX9_countRow_34 : decode cX9_countRow 34 = .ok (.goto (-20), 3) := by decide +kernel
theorem dX9_countRow_37 : decode cX9_countRow 37 = .ok (.aload_n 0, 1) := by decide +kernel
theorem dX9_countRow_38 : decode cX9_countRow 38 = .ok (.dup, 1) := by decide +kernel
theorem dX9_countRow_39 : decode cX9_countRow 39 = .ok (.getfield 187, 3) := by decide +kernel
theorem dX9_countRow_42 : decode cX9_countRow 42 = .ok (.iconst 1, 1) := by decide +kernel
theorem dX9_countRow_43 : decode cX9_countRow 43 = .ok (.iadd, 1) := by decide +kernel
theorem dX9_countRow_44 : decode cX9_countRow 44 = .ok (.putfield 187, 3) := by decide +kernel
theorem dX9_countRow_47 : decode cX9_countRow 47 = .ok (.aload_n 0, 1) := by decide +kernel
theorem dX9_countRow_48 : decode cX9_countRow 48 = .ok (.dup, 1) := by decide +kernel
theorem dX9_countRow_49 : decode cX9_countRow 49 = .ok (.getfield 193, 3) := by decide +kernel
theorem dX9_countRow_52 : decode cX9_countRow 52 = .ok (.aload_n 0, 1) := by decide +kernel
theorem dX9_countRow_53 : decode cX9_countRow 53 = .ok (.getfield 184, 3) := by decide +kernel
theorem dX9_countRow_56 : decode cX9_countRow 56 = .ok (.iand, 1) := by decide +kernel
theorem dX9_countRow_57 : decode cX9_countRow 57 = .ok (.putfield 193, 3) := by decide +kernel
theorem dX9_countRow_60 : decode cX9_countRow 60 = .ok (.aload_n 0, 1) := by decide +kernel
theorem dX9_countRow_61 : decode cX9_countRow 61 = .ok (.dup, 1) := by decide +kernel
theorem dX9_countRow_62 : decode cX9_countRow 62 = .ok (.getfield 196, 3) := by decide +kernel
theorem dX9_countRow_65 : decode cX9_countRow 65 = .ok (.aload_n 0, 1) := by decide +kernel
theorem dX9_countRow_66 : decode cX9_countRow 66 = .ok (.getfield 184, 3) := by decide +kernel
theorem dX9_countRow_69 : decode cX9_countRow 69 = .ok (.ior, 1) := by decide +kernel
theorem dX9_countRow_70 : decode cX9_countRow 70 = .ok (.putfield 196, 3) := by decide +kernel
theorem dX9_countRow_73 : decode cX9_countRow 73 = .ok (.iconst 0, 1) := by decide +kernel
theorem dX9_countRow_74 : decode cX9_countRow 74 = .ok (.istore_n 2, 1) := by decide +kernel
theorem dX9_countRow_75 : decode cX9_countRow 75 = .ok (.iload_n 2, 1) := by decide +kernel
theorem dX9_countRow_76 : decode cX9_countRow 76 = .ok (.aload_n 0, 1) := by decide +kernel
theorem dX9_countRow_77 : decode cX9_countRow 77 = .ok (.getfield 84, 3) := by decide +kernel
theorem dX9_countRow_80 : decode cX9_countRow 80 = .ok (.if_icmp .ge 63, 3) := by decide +kernel
theorem dX9_countRow_83 : decode cX9_countRow 83 = .ok (.aload_n 0, 1) := by decide +kernel
theorem dX9_countRow_84 : decode cX9_countRow 84 = .ok (.getfield 61, 3) := by decide +kernel
theorem dX9_countRow_87 : decode cX9_countRow 87 = .ok (.iload_n 2, 1) := by decide +kernel
theorem dX9_countRow_88 : decode cX9_countRow 88 = .ok (.dup2, 1) := by decide +kernel
theorem dX9_countRow_89 : decode cX9_countRow 89 = .ok (.iaload, 1) := by decide +kernel
theorem dX9_countRow_90 : decode cX9_countRow 90 = .ok (.iconst 1, 1) := by decide +kernel
theorem dX9_countRow_91 : decode cX9_countRow 91 = .ok (.aload_n 0, 1) := by decide +kernel
theorem dX9_countRow_92 : decode cX9_countRow 92 = .ok (.getfield 43, 3) := by decide +kernel
theorem dX9_countRow_95 : decode cX9_countRow 95 = .ok (.iload_n 2, 1) := by decide +kernel
theorem dX9_countRow_96 : decode cX9_countRow 96 = .ok (.iaload, 1) := by decide +kernel
theorem dX9_countRow_97 : decode cX9_countRow 97 = .ok (.ifCond .ge 7, 3) := by decide +kernel
theorem dX9_countRow_100 : decode cX9_countRow 100 = .ok (.iconst 4, 1) := by decide +kernel
theorem dX9_countRow_101 : decode cX9_countRow 101 = .ok (.goto 9, 3) := by decide +kernel
theorem dX9_countRow_104 : decode cX9_countRow 104 = .ok (.aload_n 0, 1) := by decide +kernel
theorem dX9_countRow_105 : decode cX9_countRow 105 = .ok (.getfield 43, 3) := by decide +kernel
theorem dX9_countRow_108 : decode cX9_countRow 108 = .ok (.iload_n 2, 1) := by decide +kernel
theorem dX9_countRow_109 : decode cX9_countRow 109 = .ok (.iaload, 1) := by decide +kernel
theorem dX9_countRow_110 : decode cX9_countRow 110 = .ok (.ishl, 1) := by decide +kernel
theorem dX9_countRow_111 : decode cX9_countRow 111 = .ok (.ior, 1) := by decide +kernel
theorem dX9_countRow_112 : decode cX9_countRow 112 = .ok (.iastore, 1) := by decide +kernel
theorem dX9_countRow_113 : decode cX9_countRow 113 = .ok (.aload_n 0, 1) := by decide +kernel
theorem dX9_countRow_114 : decode cX9_countRow 114 = .ok (.getfield 64, 3) := by decide +kernel
theorem dX9_countRow_117 : decode cX9_countRow 117 = .ok (.bipush 10, 2) := by decide +kernel
theorem dX9_countRow_119 : decode cX9_countRow 119 = .ok (.iload_n 2, 1) := by decide +kernel
theorem dX9_countRow_120 : decode cX9_countRow 120 = .ok (.imul, 1) := by decide +kernel
theorem dX9_countRow_121 : decode cX9_countRow 121 = .ok (.aload_n 0, 1) := by decide +kernel
theorem dX9_countRow_122 : decode cX9_countRow 122 = .ok (.getfield 7, 3) := by decide +kernel
theorem dX9_countRow_125 : decode cX9_countRow 125 = .ok (.iconst 3, 1) := by decide +kernel
theorem dX9_countRow_126 : decode cX9_countRow 126 = .ok (.iload_n 2, 1) := by decide +kernel
theorem dX9_countRow_127 : decode cX9_countRow 127 = .ok (.invokestatic 88, 3) := by decide +kernel
theorem dX9_countRow_130 : decode cX9_countRow 130 = .ok (.iaload, 1) := by decide +kernel
theorem dX9_countRow_131 : decode cX9_countRow 131 = .ok (.iadd, 1) := by decide +kernel
theorem dX9_countRow_132 : decode cX9_countRow 132 = .ok (.dup2, 1) := by decide +kernel
theorem dX9_countRow_133 : decode cX9_countRow 133 = .ok (.iaload, 1) := by decide +kernel
theorem dX9_countRow_134 : decode cX9_countRow 134 = .ok (.iconst 1, 1) := by decide +kernel
theorem dX9_countRow_135 : decode cX9_countRow 135 = .ok (.iadd, 1) := by decide +kernel
theorem dX9_countRow_136 : decode cX9_countRow 136 = .ok (.iastore, 1) := by decide +kernel
theorem dX9_countRow_137 : decode cX9_countRow 137 = .ok (.iinc 2 1, 3) := by decide +kernel
theorem dX9_countRow_140 : decode cX9_countRow 140 = .ok (.goto (-65), 3) := by decide +kernel
theorem dX9_countRow_143 : decode cX9_countRow 143 = .ok (.return_, 1) := by decide +kernel
theorem dX9_goRows_0 : decode cX9_goRows 0 = .ok (.aload_n 0, 1) := by decide +kernel
theorem dX9_goRows_1 : decode cX9_goRows 1 = .ok (.invokevirtual 169, 3) := by decide +kernel
theorem dX9_goRows_4 : decode cX9_goRows 4 = .ok (.aload_n 0, 1) := by decide +kernel
theorem dX9_goRows_5 : decode cX9_goRows 5 = .ok (.iconst 0, 1) := by decide +kernel
theorem dX9_goRows_6 : decode cX9_goRows 6 = .ok (.putfield 187, 3) := by decide +kernel
theorem dX9_goRows_9 : decode cX9_goRows 9 = .ok (.aload_n 0, 1) := by decide +kernel
theorem dX9_goRows_10 : decode cX9_goRows 10 = .ok (.bipush (-6), 2) := by decide +kernel
theorem dX9_goRows_12 : decode cX9_goRows 12 = .ok (.putfield 190, 3) := by decide +kernel
theorem dX9_goRows_15 : decode cX9_goRows 15 = .ok (.aload_n 0, 1) := by decide +kernel
theorem dX9_goRows_16 : decode cX9_goRows 16 = .ok (.bipush 15, 2) := by decide +kernel
theorem dX9_goRows_18 : decode cX9_goRows 18 = .ok (.putfield 193, 3) := by decide +kernel
theorem dX9_goRows_21 : decode cX9_goRows 21 = .ok (.aload_n 0, 1) := by decide +kernel
theorem dX9_goRows_22 : decode cX9_goRows 22 = .ok (.iconst 0, 1) := by decide +kernel
theorem dX9_goRows_23 : decode cX9_goRows 23 = .ok (.putfield 196, 3) := by decide +kernel
theorem dX9_goRows_26 : decode cX9_goRows 26 = .ok (.iconst 0, 1) := by decide +kernel
theorem dX9_goRows_27 : decode cX9_goRows 27 = .ok (.istore_n 2, 1) := by decide +kernel
theorem dX9_goRows_28 : decode cX9_goRows 28 = .ok (.iload_n 2, 1) := by decide +kernel
theorem dX9_goRows_29 : decode cX9_goRows 29 = .ok (.bipush 7, 2) := by decide +kernel
theorem dX9_goRows_31 : decode cX9_goRows 31 = .ok (.if_icmp .ge 16, 3) := by decide +kernel
theorem dX9_goRows_34 : decode cX9_goRows 34 = .ok (.aload_n 0, 1) := by decide +kernel
theorem dX9_goRows_35 : decode cX9_goRows 35 = .ok (.getfield 61, 3) := by decide +kernel
theorem dX9_goRows_38 : decode cX9_goRows 38 = .ok (.iload_n 2, 1) := by decide +kernel
theorem dX9_goRows_39 : decode cX9_goRows 39 = .ok (.iconst 0, 1) := by decide +kernel
theorem dX9_goRows_40 : decode cX9_goRows 40 = .ok (.iastore, 1) := by decide +kernel
theorem dX9_goRows_41 : decode cX9_goRows 41 = .ok (.iinc 2 1, 3) := by decide +kernel
theorem dX9_goRows_44 : decode cX9_goRows 44 = .ok (.goto (-16), 3) := by decide +kernel
theorem dX9_goRows_47 : decode cX9_goRows 47 = .ok (.iconst 0, 1) := by decide +kernel
theorem dX9_goRows_48 : decode cX9_goRows 48 = .ok (.istore_n 2, 1) := by decide +kernel
theorem dX9_goRows_49 : decode cX9_goRows 49 = .ok (.iload_n 2, 1) := by decide +kernel
theorem dX9_goRows_50 : decode cX9_goRows 50 = .ok (.bipush 70, 2) := by decide +kernel
theorem dX9_goRows_52 : decode cX9_goRows 52 = .ok (.if_icmp .ge 16, 3) := by decide +kernel
theorem dX9_goRows_55 : decode cX9_goRows 55 = .ok (.aload_n 0, 1) := by decide +kernel
theorem dX9_goRows_56 : decode cX9_goRows 56 = .ok (.getfield 64, 3) := by decide +kernel
theorem dX9_goRows_59 : decode cX9_goRows 59 = .ok (.iload_n 2, 1) := by decide +kernel
theorem dX9_goRows_60 : decode cX9_goRows 60 = .ok (.iconst 0, 1) := by decide +kernel
theorem dX9_goRows_61 : decode cX9_goRows 61 = .ok (.iastore, 1) := by decide +kernel
theorem dX9_goRows_62 : decode cX9_goRows 62 = .ok (.iinc 2 1, 3) := by decide +kernel
theorem dX9_goRows_65 : decode cX9_goRows 65 = .ok (.goto (-16), 3) := by decide +kernel
theorem dX9_goRows_68 : decode cX9_goRows 68 = .ok (.iconst 0, 1) := by decide +kernel
theorem dX9_goRows_69 : decode cX9_goRows 69 = .ok (.istore_n 2, 1) := by decide +kernel
theorem dX9_goRows_70 : decode cX9_goRows 70 = .ok (.iload_n 2, 1) := by decide +kernel
theorem dX9_goRows_71 : decode cX9_goRows 71 = .ok (.iload_n 1, 1) := by decide +kernel
theorem dX9_goRows_72 : decode cX9_goRows 72 = .ok (.if_icmp .gt 52, 3) := by decide +kernel
theorem dX9_goRows_75 : decode cX9_goRows 75 = .ok (.iconst 0, 1) := by decide +kernel
theorem dX9_goRows_76 : decode cX9_goRows 76 = .ok (.istore_n 3, 1) := by decide +kernel
theorem dX9_goRows_77 : decode cX9_goRows 77 = .ok (.iload_n 3, 1) := by decide +kernel
theorem dX9_goRows_78 : decode cX9_goRows 78 = .ok (.iconst 4, 1) := by decide +kernel
theorem dX9_goRows_79 : decode cX9_goRows 79 = .ok (.iload_n 2, 1) := by decide +kernel
theorem dX9_goRows_80 : decode cX9_goRows 80 = .ok (.invokestatic 199, 3) := by decide +kernel
theorem dX9_goRows_83 : decode cX9_goRows 83 = .ok (.if_icmp .ge 35, 3) := by decide +kernel
theorem dX9_goRows_86 : decode cX9_goRows 86 = .ok (.aload_n 0, 1) := by decide +kernel
theorem dX9_goRows_87 : decode cX9_goRows 87 = .ok (.iload_n 3, 1) := by decide +kernel
theorem dX9_goRows_88 : decode cX9_goRows 88 = .ok (.iload_n 2, 1) := by decide +kernel
theorem dX9_goRows_89 : decode cX9_goRows 89 = .ok (.invokevirtual 202, 3) := by decide +kernel
theorem dX9_goRows_92 : decode cX9_goRows 92 = .ok (.aload_n 0, 1) := by decide +kernel
theorem dX9_goRows_93 : decode cX9_goRows 93 = .ok (.iload_n 2, 1) := by decide +kernel
theorem dX9_goRows_94 : decode cX9_goRows 94 = .ok (.invokevirtual 205, 3) := by decide +kernel
theorem dX9_goRows_97 : decode cX9_goRows 97 = .ok (.ifCond .eq 15, 3) := by decide +kernel
theorem dX9_goRows_100 : decode cX9_goRows 100 = .ok (.aload_n 0, 1) := by decide +kernel
theorem dX9_goRows_101 : decode cX9_goRows 101 = .ok (.invokevirtual 208, 3) := by decide +kernel
theorem dX9_goRows_104 : decode cX9_goRows 104 = .ok (.ifCond .eq 8, 3) := by decide +kernel
theorem dX9_goRows_107 : decode cX9_goRows 107 = .ok (.aload_n 0, 1) := by decide +kernel
theorem dX9_goRows_108 : decode cX9_goRows 108 = .ok (.iload_n 2, 1) := by decide +kernel
theorem dX9_goRows_109 : decode cX9_goRows 109 = .ok (.invokevirtual 212, 3) := by decide +kernel
theorem dX9_goRows_112 : decode cX9_goRows 112 = .ok (.iinc 3 1, 3) := by decide +kernel
theorem dX9_goRows_115 : decode cX9_goRows 115 = .ok (.goto (-38), 3) := by decide +kernel
theorem dX9_goRows_118 : decode cX9_goRows 118 = .ok (.iinc 2 1, 3) := by decide +kernel
theorem dX9_goRows_121 : decode cX9_goRows 121 = .ok (.goto (-51), 3) := by decide +kernel
theorem dX9_goRows_124 : decode cX9_goRows 124 = .ok (.aload_n 0, 1) := by decide +kernel
theorem dX9_goRows_125 : decode cX9_goRows 125 = .ok (.invokevirtual 175, 3) := by decide +kernel
theorem dX9_goRows_128 : decode cX9_goRows 128 = .ok (.return_, 1) := by decide +kernel
theorem dX9_rows_0 : decode cX9_rows 0 = .ok (.iload_n 1, 1) := by decide +kernel
theorem dX9_rows_1 : decode cX9_rows 1 = .ok (.i2l, 1) := by decide +kernel
theorem dX9_rows_2 : decode cX9_rows 2 = .ok (.lconst 0, 1) := by decide +kernel
theorem dX9_rows_3 : decode cX9_rows 3 = .ok (.ldc2_w 215, 3) := by decide +kernel
theorem dX9_rows_6 : decode cX9_rows 6 = .ok (.invokestatic 92, 3) := by decide +kernel
theorem dX9_rows_9 : decode cX9_rows 9 = .ok (.ifCond .eq 15, 3) := by decide +kernel
theorem dX9_rows_12 : decode cX9_rows 12 = .ok (.iload_n 2, 1) := by decide +kernel
theorem dX9_rows_13 : decode cX9_rows 13 = .ok (.i2l, 1) := by decide +kernel
theorem dX9_rows_14 : decode cX9_rows 14 = .ok (.lconst 0, 1) := by decide +kernel
theorem dX9_rows_15 : decode cX9_rows 15 = .ok (.ldc2_w 107, 3) := by decide +kernel
theorem dX9_rows_18 : decode cX9_rows 18 = .ok (.invokestatic 92, 3) := by decide +kernel
theorem dX9_rows_21 : decode cX9_rows 21 = .ok (.ifCond .ne 6, 3) := by decide +kernel
theorem dX9_rows_24 : decode cX9_rows 24 = .ok (.bipush (-2), 2) := by decide +kernel
theorem dX9_rows_26 : decode cX9_rows 26 = .ok (.ireturn, 1) := by decide +kernel
theorem dX9_rows_27 : decode cX9_rows 27 = .ok (.aload_n 0, 1) := by decide +kernel
theorem dX9_rows_28 : decode cX9_rows 28 = .ok (.iload_n 1, 1) := by decide +kernel
theorem dX9_rows_29 : decode cX9_rows 29 = .ok (.invokevirtual 217, 3) := by decide +kernel
theorem dX9_rows_32 : decode cX9_rows 32 = .ok (.iload_n 2, 1) := by decide +kernel
theorem dX9_rows_33 : decode cX9_rows 33 = .ok (.tableswitch 62 0 3 #[31, 36, 41, 57], 31) := by decide +kernel
theorem dX9_rows_64 : decode cX9_rows 64 = .ok (.aload_n 0, 1) := by decide +kernel
theorem dX9_rows_65 : decode cX9_rows 65 = .ok (.getfield 187, 3) := by decide +kernel
theorem dX9_rows_68 : decode cX9_rows 68 = .ok (.ireturn, 1) := by decide +kernel
theorem dX9_rows_69 : decode cX9_rows 69 = .ok (.aload_n 0, 1) := by decide +kernel
theorem dX9_rows_70 : decode cX9_rows 70 = .ok (.getfield 190, 3) := by decide +kernel
theorem dX9_rows_73 : decode cX9_rows 73 = .ok (.ireturn, 1) := by decide +kernel
theorem dX9_rows_74 : decode cX9_rows 74 = .ok (.aload_n 0, 1) := by decide +kernel
theorem dX9_rows_75 : decode cX9_rows 75 = .ok (.getfield 187, 3) := by decide +kernel
theorem dX9_rows_78 : decode cX9_rows 78 = .ok (.ifCond .ne 7, 3) := by decide +kernel
theorem dX9_rows_81 : decode cX9_rows 81 = .ok (.iconst 0, 1) := by decide +kernel
theorem dX9_rows_82 : decode cX9_rows 82 = .ok (.goto 7, 3) := by decide +kernel
theorem dX9_rows_85 : decode cX9_rows 85 = .ok (.aload_n 0, 1) := by decide +kernel
theorem dX9_rows_86 : decode cX9_rows 86 = .ok (.getfield 193, 3) := by decide +kernel
theorem dX9_rows_89 : decode cX9_rows 89 = .ok (.ireturn, 1) := by decide +kernel
theorem dX9_rows_90 : decode cX9_rows 90 = .ok (.aload_n 0, 1) := by decide +kernel
theorem dX9_rows_91 : decode cX9_rows 91 = .ok (.getfield 196, 3) := by decide +kernel
theorem dX9_rows_94 : decode cX9_rows 94 = .ok (.ireturn, 1) := by decide +kernel
theorem dX9_rows_95 : decode cX9_rows 95 = .ok (.iload_n 2, 1) := by decide +kernel
theorem dX9_rows_96 : decode cX9_rows 96 = .ok (.iconst 4, 1) := by decide +kernel
theorem dX9_rows_97 : decode cX9_rows 97 = .ok (.isub, 1) := by decide +kernel
theorem dX9_rows_98 : decode cX9_rows 98 = .ok (.aload_n 0, 1) := by decide +kernel
theorem dX9_rows_99 : decode cX9_rows 99 = .ok (.getfield 190, 3) := by decide +kernel
theorem dX9_rows_102 : decode cX9_rows 102 = .ok (.if_icmp .ge 14, 3) := by decide +kernel
theorem dX9_rows_105 : decode cX9_rows 105 = .ok (.aload_n 0, 1) := by decide +kernel
theorem dX9_rows_106 : decode cX9_rows 106 = .ok (.getfield 58, 3) := by decide +kernel
theorem dX9_rows_109 : decode cX9_rows 109 = .ok (.iload_n 2, 1) := by decide +kernel
theorem dX9_rows_110 : decode cX9_rows 110 = .ok (.iconst 4, 1) := by decide +kernel
theorem dX9_rows_111 : decode cX9_rows 111 = .ok (.isub, 1) := by decide +kernel
theorem dX9_rows_112 : decode cX9_rows 112 = .ok (.iaload, 1) := by decide +kernel
theorem dX9_rows_113 : decode cX9_rows 113 = .ok (.goto 5, 3) := by decide +kernel
theorem dX9_rows_116 : decode cX9_rows 116 = .ok (.bipush (-6), 2) := by decide +kernel
theorem dX9_rows_118 : decode cX9_rows 118 = .ok (.ireturn, 1) := by decide +kernel
theorem dX9_cup_0 : decode cX9_cup 0 = .ok (.aload_n 0, 1) := by decide +kernel
theorem dX9_cup_1 : decode cX9_cup 1 = .ok (.iload_n 1, 1) := by decide +kernel
theorem dX9_cup_2 : decode cX9_cup 2 = .ok (.invokevirtual 103, 3) := by decide +kernel
theorem dX9_cup_5 : decode cX9_cup 5 = .ok (.ifCond .ne 5, 3) := by decide +kernel
theorem dX9_cup_8 : decode cX9_cup 8 = .ok (.iconst (-1), 1) := by decide +kernel
theorem dX9_cup_9 : decode cX9_cup 9 = .ok (.ireturn, 1) := by decide +kernel
theorem dX9_cup_10 : decode cX9_cup 10 = .ok (.iload_n 2, 1) := by decide +kernel
theorem dX9_cup_11 : decode cX9_cup 11 = .ok (.i2l, 1) := by decide +kernel
theorem dX9_cup_12 : decode cX9_cup 12 = .ok (.lconst 0, 1) := by decide +kernel
theorem dX9_cup_13 : decode cX9_cup 13 = .ok (.ldc2_w 215, 3) := by decide +kernel
theorem dX9_cup_16 : decode cX9_cup 16 = .ok (.invokestatic 92, 3) := by decide +kernel
theorem dX9_cup_19 : decode cX9_cup 19 = .ok (.ifCond .ne 6, 3) := by decide +kernel
theorem dX9_cup_22 : decode cX9_cup 22 = .ok (.bipush (-2), 2) := by decide +kernel
theorem dX9_cup_24 : decode cX9_cup 24 = .ok (.ireturn, 1) := by decide +kernel
theorem dX9_cup_25 : decode cX9_cup 25 = .ok (.aload_n 0, 1) := by decide +kernel
theorem dX9_cup_26 : decode cX9_cup 26 = .ok (.iload_n 2, 1) := by decide +kernel
theorem dX9_cup_27 : decode cX9_cup 27 = .ok (.invokevirtual 217, 3) := by decide +kernel
theorem dX9_cup_30 : decode cX9_cup 30 = .ok (.aload_n 0, 1) := by decide +kernel
theorem dX9_cup_31 : decode cX9_cup 31 = .ok (.getfield 61, 3) := by decide +kernel
theorem dX9_cup_34 : decode cX9_cup 34 = .ok (.iload_n 1, 1) := by decide +kernel
theorem dX9_cup_35 : decode cX9_cup 35 = .ok (.iaload, 1) := by decide +kernel
theorem dX9_cup_36 : decode cX9_cup 36 = .ok (.ireturn, 1) := by decide +kernel
theorem dX9_mostLeft_0 : decode cX9_mostLeft 0 = .ok (.iconst 0, 1) := by decide +kernel
theorem dX9_mostLeft_1 : decode cX9_mostLeft 1 = .ok (.istore_n 2, 1) := by decide +kernel
theorem dX9_mostLeft_2 : decode cX9_mostLeft 2 = .ok (.iconst 0, 1) := by decide +kernel
theorem dX9_mostLeft_3 : decode cX9_mostLeft 3 = .ok (.istore_n 3, 1) := by decide +kernel
theorem dX9_mostLeft_4 : decode cX9_mostLeft 4 = .ok (.iload_n 3, 1) := by decide +kernel
theorem dX9_mostLeft_5 : decode cX9_mostLeft 5 = .ok (.bipush 10, 2) := by decide +kernel
theorem dX9_mostLeft_7 : decode cX9_mostLeft 7 = .ok (.if_icmp .ge 40, 3) := by decide +kernel
theorem dX9_mostLeft_10 : decode cX9_mostLeft 10 = .ok (.aload_n 0, 1) := by decide +kernel
theorem dX9_mostLeft_11 : decode cX9_mostLeft 11 = .ok (.getfield 64, 3) := by decide +kernel
theorem dX9_mostLeft_14 : decode cX9_mostLeft 14 = .ok (.bipush 10, 2) := by decide +kernel
theorem dX9_mostLeft_16 : decode cX9_mostLeft 16 = .ok (.iload_n 1, 1) := by decide +kernel
theorem dX9_mostLeft_17 : decode cX9_mostLeft 17 = .ok (.imul, 1) := by decide +kernel
theorem dX9_mostLeft_18 : decode cX9_mostLeft 18 = .ok (.iload_n 3, 1) := by decide +kernel
theorem dX9_mostLeft_19 : decode cX9_mostLeft 19 = .ok (.iadd, 1) := by decide +kernel
theorem dX9_mostLeft_20 : decode cX9_mostLeft 20 = .ok (.iaload, 1) := by decide +kernel
theorem dX9_mostLeft_21 : decode cX9_mostLeft 21 = .ok (.iload_n 2, 1) := by decide +kernel
theorem dX9_mostLeft_22 : decode cX9_mostLeft 22 = .ok (.if_icmp .le 17, 3) := by decide +kernel
theorem dX9_mostLeft_25 : decode cX9_mostLeft 25 = .ok (.aload_n 0, 1) := by decide +kernel
theorem dX9_mostLeft_26 : decode cX9_mostLeft 26 = .ok (.getfield 64, 3) := by decide +kernel
theorem dX9_mostLeft_29 : decode cX9_mostLeft 29 = .ok (.bipush 10, 2) := by decide +kernel
theorem dX9_mostLeft_31 : decode cX9_mostLeft 31 = .ok (.iload_n 1, 1) := by decide +kernel
theorem dX9_mostLeft_32 : decode cX9_mostLeft 32 = .ok (.imul, 1) := by decide +kernel
theorem dX9_mostLeft_33 : decode cX9_mostLeft 33 = .ok (.iload_n 3, 1) := by decide +kernel
theorem dX9_mostLeft_34 : decode cX9_mostLeft 34 = .ok (.iadd, 1) := by decide +kernel
theorem dX9_mostLeft_35 : decode cX9_mostLeft 35 = .ok (.iaload, 1) := by decide +kernel
theorem dX9_mostLeft_36 : decode cX9_mostLeft 36 = .ok (.goto 4, 3) := by decide +kernel
theorem dX9_mostLeft_39 : decode cX9_mostLeft 39 = .ok (.iload_n 2, 1) := by decide +kernel
theorem dX9_mostLeft_40 : decode cX9_mostLeft 40 = .ok (.istore_n 2, 1) := by decide +kernel
theorem dX9_mostLeft_41 : decode cX9_mostLeft 41 = .ok (.iinc 3 1, 3) := by decide +kernel
theorem dX9_mostLeft_44 : decode cX9_mostLeft 44 = .ok (.goto (-40), 3) := by decide +kernel
theorem dX9_mostLeft_47 : decode cX9_mostLeft 47 = .ok (.iload_n 2, 1) := by decide +kernel
theorem dX9_mostLeft_48 : decode cX9_mostLeft 48 = .ok (.ireturn, 1) := by decide +kernel
theorem dX9_look_0 : decode cX9_look 0 = .ok (.iload_n 1, 1) := by decide +kernel
theorem dX9_look_1 : decode cX9_look 1 = .ok (.i2l, 1) := by decide +kernel
theorem dX9_look_2 : decode cX9_look 2 = .ok (.lconst 0, 1) := by decide +kernel
theorem dX9_look_3 : decode cX9_look 3 = .ok (.ldc2_w 215, 3) := by decide +kernel
theorem dX9_look_6 : decode cX9_look 6 = .ok (.invokestatic 92, 3) := by decide +kernel
theorem dX9_look_9 : decode cX9_look 9 = .ok (.ifCond .eq 13, 3) := by decide +kernel
theorem dX9_look_12 : decode cX9_look 12 = .ok (.iload_n 2, 1) := by decide +kernel
theorem dX9_look_13 : decode cX9_look 13 = .ok (.i2l, 1) := by decide +kernel
theorem dX9_look_14 : decode cX9_look 14 = .ok (.lconst 0, 1) := by decide +kernel
theorem dX9_look_15 : decode cX9_look 15 = .ok (.lconst 1, 1) := by decide +kernel
theorem dX9_look_16 : decode cX9_look 16 = .ok (.invokestatic 92, 3) := by decide +kernel
theorem dX9_look_19 : decode cX9_look 19 = .ok (.ifCond .ne 6, 3) := by decide +kernel
theorem dX9_look_22 : decode cX9_look 22 = .ok (.bipush (-2), 2) := by decide +kernel
theorem dX9_look_24 : decode cX9_look 24 = .ok (.ireturn, 1) := by decide +kernel
theorem dX9_look_25 : decode cX9_look 25 = .ok (.aload_n 0, 1) := by decide +kernel
theorem dX9_look_26 : decode cX9_look 26 = .ok (.iload_n 1, 1) := by decide +kernel
theorem dX9_look_27 : decode cX9_look 27 = .ok (.invokevirtual 217, 3) := by decide +kernel
theorem dX9_look_30 : decode cX9_look 30 = .ok (.bipush (-6), 2) := by decide +kernel
theorem dX9_look_32 : decode cX9_look 32 = .ok (.istore_n 3, 1) := by decide +kernel
theorem dX9_look_33 : decode cX9_look 33 = .ok (.iconst 0, 1) := by decide +kernel
theorem dX9_look_34 : decode cX9_look 34 = .ok (.istore 4, 2) := by decide +kernel
theorem dX9_look_36 : decode cX9_look 36 = .ok (.iload 4, 2) := by decide +kernel
theorem dX9_look_38 : decode cX9_look 38 = .ok (.aload_n 0, 1) := by decide +kernel
theorem dX9_look_39 : decode cX9_look 39 = .ok (.getfield 84, 3) := by decide +kernel
theorem dX9_look_42 : decode cX9_look 42 = .ok (.if_icmp .ge 63, 3) := by decide +kernel
theorem dX9_look_45 : decode cX9_look 45 = .ok (.aload_n 0, 1) := by decide +kernel
theorem dX9_look_46 : decode cX9_look 46 = .ok (.getfield 187, 3) := by decide +kernel
theorem dX9_look_49 : decode cX9_look 49 = .ok (.ifCond .le 56, 3) := by decide +kernel
theorem dX9_look_52 : decode cX9_look 52 = .ok (.aload_n 0, 1) := by decide +kernel
theorem dX9_look_53 : decode cX9_look 53 = .ok (.getfield 16, 3) := by decide +kernel
theorem dX9_look_56 : decode cX9_look 56 = .ok (.iload 4, 2) := by decide +kernel
theorem dX9_look_58 : decode cX9_look 58 = .ok (.iaload, 1) := by decide +kernel
theorem dX9_look_59 : decode cX9_look 59 = .ok (.ifCond .ge 7, 3) := by decide +kernel
theorem dX9_look_62 : decode cX9_look 62 = .ok (.iconst 1, 1) := by decide +kernel
theorem dX9_look_63 : decode cX9_look 63 = .ok (.goto 4, 3) := by decide +kernel
theorem dX9_look_66 : decode cX9_look 66 = .ok (.iconst 0, 1) := by decide +kernel
theorem dX9_look_67 : decode cX9_look 67 = .ok (.istore 5, 2) := by decide +kernel
theorem dX9_look_69 : decode cX9_look 69 = .ok (.iload 5, 2) := by decide +kernel
theorem dX9_look_71 : decode cX9_look 71 = .ok (.ifCond .eq 26, 3) := by decide +kernel
theorem dX9_look_74 : decode cX9_look 74 = .ok (.iload_n 3, 1) := by decide +kernel
theorem dX9_look_75 : decode cX9_look 75 = .ok (.ifCond .lt 17, 3) := by decide +kernel
theorem dX9_look_78 : decode cX9_look 78 = .ok (.aload_n 0, 1) := by decide +kernel
theorem dX9_look_79 : decode cX9_look 79 = .ok (.iload 4, 2) := by decide +kernel
theorem dX9_look_81 : decode cX9_look 81 = .ok (.invokevirtual 220, 3) := by decide +kernel
theorem dX9_look_84 : decode cX9_look 84 = .ok (.aload_n 0, 1) := by decide +kernel
theorem dX9_look_85 : decode cX9_look 85 = .ok (.iload_n 3, 1) := by decide +kernel
theorem dX9_look_86 : decode cX9_look 86 = .ok (.invokevirtual 220, 3) := by decide +kernel
theorem dX9_look_89 : decode cX9_look 89 = .ok (.if_icmp .ge 8, 3) := by decide +kernel
theorem dX9_look_92 : decode cX9_look 92 = .ok (.iload 4, 2) := by decide +kernel
theorem dX9_look_94 : decode cX9_look 94 = .ok (.goto 4, 3) := by decide +kernel
theorem dX9_look_97 : decode cX9_look 97 = .ok (.iload_n 3, 1) := by decide +kernel
theorem dX9_look_98 : decode cX9_look 98 = .ok (.istore_n 3, 1) := by decide +kernel
theorem dX9_look_99 : decode cX9_look 99 = .ok (.iinc 4 1, 3) := by decide +kernel
theorem dX9_look_102 : decode cX9_look 102 = .ok (.goto (-66), 3) := by decide +kernel
theorem dX9_look_105 : decode cX9_look 105 = .ok (.iload_n 3, 1) := by decide +kernel
theorem dX9_look_106 : decode cX9_look 106 = .ok (.ifCond .lt 7, 3) := by decide +kernel
theorem dX9_look_109 : decode cX9_look 109 = .ok (.iload_n 2, 1) := by decide +kernel
theorem dX9_look_110 : decode cX9_look 110 = .ok (.ifCond .ne 7, 3) := by decide +kernel
theorem dX9_look_113 : decode cX9_look 113 = .ok (.iload_n 3, 1) := by decide +kernel
theorem dX9_look_114 : decode cX9_look 114 = .ok (.goto 8, 3) := by decide +kernel
theorem dX9_look_117 : decode cX9_look 117 = .ok (.aload_n 0, 1) := by decide +kernel
theorem dX9_look_118 : decode cX9_look 118 = .ok (.iload_n 3, 1) := by decide +kernel
theorem dX9_look_119 : decode cX9_look 119 = .ok (.invokevirtual 220, 3) := by decide +kernel
theorem dX9_look_122 : decode cX9_look 122 = .ok (.ireturn, 1) := by decide +kernel
theorem dX9_lowest_0 : decode cX9_lowest 0 = .ok (.lload_n 2, 1) := by decide +kernel
theorem dX9_lowest_1 : decode cX9_lowest 1 = .ok (.lstore 5, 2) := by decide +kernel
theorem dX9_lowest_3 : decode cX9_lowest 3 = .ok (.lload_n 0, 1) := by decide +kernel
theorem dX9_lowest_4 : decode cX9_lowest 4 = .ok (.lstore 7, 2) := by decide +kernel
theorem dX9_lowest_6 : decode cX9_lowest 6 = .ok (.lload 7, 2) := by decide +kernel
theorem dX9_lowest_8 : decode cX9_lowest 8 = .ok (.lconst 0, 1) := by decide +kernel
theorem dX9_lowest_9 : decode cX9_lowest 9 = .ok (.lcmp, 1) := by decide +kernel
theorem dX9_lowest_10 : decode cX9_lowest 10 = .ok (.ifCond .eq 21, 3) := by decide +kernel
theorem dX9_lowest_13 : decode cX9_lowest 13 = .ok (.lload 5, 2) := by decide +kernel
theorem dX9_lowest_15 : decode cX9_lowest 15 = .ok (.lload 7, 2) := by decide +kernel
theorem dX9_lowest_17 : decode cX9_lowest 17 = .ok (.lrem, 1) := by decide +kernel
theorem dX9_lowest_18 : decode cX9_lowest 18 = .ok (.lstore 9, 2) := by decide +kernel
theorem dX9_lowest_20 : decode cX9_lowest 20 = .ok (.lload 7, 2) := by decide +kernel
theorem dX9_lowest_22 : decode cX9_lowest 22 = .ok (.lstore 5, 2) := by decide +kernel
theorem dX9_lowest_24 : decode cX9_lowest 24 = .ok (.lload 9, 2) := by decide +kernel
theorem dX9_lowest_26 : decode cX9_lowest 26 = .ok (.lstore 7, 2) := by decide +kernel
theorem dX9_lowest_28 : decode cX9_lowest 28 = .ok (.goto (-22), 3) := by decide +kernel
theorem dX9_lowest_31 : decode cX9_lowest 31 = .ok (.iload 4, 2) := by decide +kernel
theorem dX9_lowest_33 : decode cX9_lowest 33 = .ok (.ifCond .ne 10, 3) := by decide +kernel
theorem dX9_lowest_36 : decode cX9_lowest 36 = .ok (.lload_n 0, 1) := by decide +kernel
theorem dX9_lowest_37 : decode cX9_lowest 37 = .ok (.lload 5, 2) := by decide +kernel
theorem dX9_lowest_39 : decode cX9_lowest 39 = .ok (.ldiv, 1) := by decide +kernel
theorem dX9_lowest_40 : decode cX9_lowest 40 = .ok (.goto 7, 3) := by decide +kernel
theorem dX9_lowest_43 : decode cX9_lowest 43 = .ok (.lload_n 2, 1) := by decide +kernel
theorem dX9_lowest_44 : decode cX9_lowest 44 = .ok (.lload 5, 2) := by decide +kernel
theorem dX9_lowest_46 : decode cX9_lowest 46 = .ok (.ldiv, 1) := by decide +kernel
theorem dX9_lowest_47 : decode cX9_lowest 47 = .ok (.lreturn, 1) := by decide +kernel
theorem dX9_weightOf_0 : decode cX9_weightOf 0 = .ok (.aload_n 0, 1) := by decide +kernel
theorem dX9_weightOf_1 : decode cX9_weightOf 1 = .ok (.invokevirtual 175, 3) := by decide +kernel
theorem dX9_weightOf_4 : decode cX9_weightOf 4 = .ok (.aload_n 0, 1) := by decide +kernel
theorem dX9_weightOf_5 : decode cX9_weightOf 5 = .ok (.bipush (-6), 2) := by decide +kernel
theorem dX9_weightOf_7 : decode cX9_weightOf 7 = .ok (.putfield 127, 3) := by decide +kernel
theorem dX9_weightOf_10 : decode cX9_weightOf 10 = .ok (.lconst 1, 1) := by decide +kernel
theorem dX9_weightOf_11 : decode cX9_weightOf 11 = .ok (.lstore_n 2, 1) := by decide +kernel
theorem dX9_weightOf_12 : decode cX9_weightOf 12 = .ok (.iconst 0, 1) := by decide +kernel
theorem dX9_weightOf_13 : decode cX9_weightOf 13 = .ok (.istore 4, 2) := by decide +kernel
theorem dX9_weightOf_15 : decode cX9_weightOf 15 = .ok (.iload 4, 2) := by decide +kernel
theorem dX9_weightOf_17 : decode cX9_weightOf 17 = .ok (.iload_n 1, 1) := by decide +kernel
theorem dX9_weightOf_18 : decode cX9_weightOf 18 = .ok (.if_icmp .ge 93, 3) := by decide +kernel
theorem dX9_weightOf_21 : decode cX9_weightOf 21 = .ok (.lload_n 2, 1) := by decide +kernel
theorem dX9_weightOf_22 : decode cX9_weightOf 22 = .ok (.aload_n 0, 1) := by decide +kernel
theorem dX9_weightOf_23 : decode cX9_weightOf 23 = .ok (.aload_n 0, 1) := by decide +kernel
theorem dX9_weightOf_24 : decode cX9_weightOf 24 = .ok (.getfield 55, 3) := by decide +kernel
theorem dX9_weightOf_27 : decode cX9_weightOf 27 = .ok (.iload 4, 2) := by decide +kernel
theorem dX9_weightOf_29 : decode cX9_weightOf 29 = .ok (.iaload, 1) := by decide +kernel
theorem dX9_weightOf_30 : decode cX9_weightOf 30 = .ok (.invokevirtual 113, 3) := by decide +kernel
theorem dX9_weightOf_33 : decode cX9_weightOf 33 = .ok (.ifCond .eq 19, 3) := by decide +kernel
theorem dX9_weightOf_36 : decode cX9_weightOf 36 = .ok (.aload_n 0, 1) := by decide +kernel
theorem dX9_weightOf_37 : decode cX9_weightOf 37 = .ok (.getfield 28, 3) := by decide +kernel
theorem dX9_weightOf_40 : decode cX9_weightOf 40 = .ok (.aload_n 0, 1) := by decide +kernel
theorem dX9_weightOf_41 : decode cX9_weightOf 41 = .ok (.getfield 55, 3) := by decide +kernel
theorem dX9_weightOf_44 : decode cX9_weightOf 44 = .ok (.iload 4, 2) := by decide +kernel
theorem dX9_weightOf_46 : decode cX9_weightOf 46 = .ok (.iaload, 1) := by decide +kernel
theorem dX9_weightOf_47 : decode cX9_weightOf 47 = .ok (.iaload, 1) := by decide +kernel
theorem dX9_weightOf_48 : decode cX9_weightOf 48 = .ok (.i2l, 1) := by decide +kernel
theorem dX9_weightOf_49 : decode cX9_weightOf 49 = .ok (.goto 4, 3) := by decide +kernel
theorem dX9_weightOf_52 : decode cX9_weightOf 52 = .ok (.lconst 0, 1) := by decide +kernel
theorem dX9_weightOf_53 : decode cX9_weightOf 53 = .ok (.lmul, 1) := by decide +kernel
theorem dX9_weightOf_54 : decode cX9_weightOf 54 = .ok (.lstore_n 2, 1) := by decide +kernel
theorem dX9_weightOf_55 : decode cX9_weightOf 55 = .ok (.aload_n 0, 1) := by decide +kernel
theorem dX9_weightOf_56 : decode cX9_weightOf 56 = .ok (.aload_n 0, 1) := by decide +kernel
theorem dX9_weightOf_57 : decode cX9_weightOf 57 = .ok (.getfield 55, 3) := by decide +kernel
theorem dX9_weightOf_60 : decode cX9_weightOf 60 = .ok (.iload 4, 2) := by decide +kernel
theorem dX9_weightOf_62 : decode cX9_weightOf 62 = .ok (.iaload, 1) := by decide +kernel
theorem dX9_weightOf_63 : decode cX9_weightOf 63 = .ok (.invokevirtual 113, 3) := by decide +kernel
theorem dX9_weightOf_66 : decode cX9_weightOf 66 = .ok (.ifCond .eq 17, 3) := by decide +kernel
theorem dX9_weightOf_69 : decode cX9_weightOf 69 = .ok (.aload_n 0, 1) := by decide +kernel
theorem dX9_weightOf_70 : decode cX9_weightOf 70 = .ok (.aload_n 0, 1) := by decide +kernel
theorem dX9_weightOf_71 : decode cX9_weightOf 71 = .ok (.getfield 55, 3) := by decide +kernel
theorem dX9_weightOf_74 : decode cX9_weightOf 74 = .ok (.iload 4, 2) := by decide +kernel
theorem dX9_weightOf_76 : decode cX9_weightOf 76 = .ok (.iaload, 1) := by decide +kernel
theorem dX9_weightOf_77 : decode cX9_weightOf 77 = .ok (.invokevirtual 139, 3) := by decide +kernel
theorem dX9_weightOf_80 : decode cX9_weightOf 80 = .ok (.goto 5, 3) := by decide +kernel
theorem dX9_weightOf_83 : decode cX9_weightOf 83 = .ok (.bipush (-6), 2) := by decide +kernel
theorem dX9_weightOf_85 : decode cX9_weightOf 85 = .ok (.istore 5, 2) := by decide +kernel
theorem dX9_weightOf_87 : decode cX9_weightOf 87 = .ok (.iload 5, 2) := by decide +kernel
theorem dX9_weightOf_89 : decode cX9_weightOf 89 = .ok (.ifCond .lt 16, 3) := by decide +kernel
theorem dX9_weightOf_92 : decode cX9_weightOf 92 = .ok (.aload_n 0, 1) := by decide +kernel
theorem dX9_weightOf_93 : decode cX9_weightOf 93 = .ok (.aload_n 0, 1) := by decide +kernel
theorem dX9_weightOf_94 : decode cX9_weightOf 94 = .ok (.getfield 55, 3) := by decide +kernel
theorem dX9_weightOf_97 : decode cX9_weightOf 97 = .ok (.iload 4, 2) := by decide +kernel
theorem dX9_weightOf_99 : decode cX9_weightOf 99 = .ok (.iaload, 1) := by decide +kernel
theorem dX9_weightOf_100 : decode cX9_weightOf 100 = .ok (.iload 5, 2) := by decide +kernel
theorem dX9_weightOf_102 : decode cX9_weightOf 102 = .ok (.invokevirtual 151, 3) := by decide +kernel
theorem dX9_weightOf_105 : decode cX9_weightOf 105 = .ok (.iinc 4 1, 3) := by decide +kernel
theorem dX9_weightOf_108 : decode cX9_weightOf 108 = .ok (.goto (-93), 3) := by decide +kernel
theorem dX9_weightOf_111 : decode cX9_weightOf 111 = .ok (.lload_n 2, 1) := by decide +kernel
theorem dX9_weightOf_112 : decode cX9_weightOf 112 = .ok (.lreturn, 1) := by decide +kernel
theorem dX9_belief_0 : decode cX9_belief 0 = .ok (.iload_n 2, 1) := by decide +kernel
theorem dX9_belief_1 : decode cX9_belief 1 = .ok (.iconst (-1), 1) := by decide +kernel
theorem dX9_belief_2 : decode cX9_belief 2 = .ok (.if_icmp .eq 15, 3) := by decide +kernel
theorem dX9_belief_5 : decode cX9_belief 5 = .ok (.aload_n 0, 1) := by decide +kernel
theorem dX9_belief_6 : decode cX9_belief 6 = .ok (.iload_n 2, 1) := by decide +kernel
theorem dX9_belief_7 : decode cX9_belief 7 = .ok (.invokevirtual 113, 3) := by decide +kernel
theorem dX9_belief_10 : decode cX9_belief 10 = .ok (.ifCond .ne 7, 3) := by decide +kernel
theorem dX9_belief_13 : decode cX9_belief 13 = .ok (.ldc2_w 223, 3) := by decide +kernel
theorem dX9_belief_16 : decode cX9_belief 16 = .ok (.lreturn, 1) := by decide +kernel
theorem dX9_belief_17 : decode cX9_belief 17 = .ok (.iload_n 1, 1) := by decide +kernel
theorem dX9_belief_18 : decode cX9_belief 18 = .ok (.i2l, 1) := by decide +kernel
theorem dX9_belief_19 : decode cX9_belief 19 = .ok (.lconst 0, 1) := by decide +kernel
theorem dX9_belief_20 : decode cX9_belief 20 = .ok (.ldc2_w 215, 3) := by decide +kernel
theorem dX9_belief_23 : decode cX9_belief 23 = .ok (.invokestatic 92, 3) := by decide +kernel
theorem dX9_belief_26 : decode cX9_belief 26 = .ok (.ifCond .eq 13, 3) := by decide +kernel
theorem dX9_belief_29 : decode cX9_belief 29 = .ok (.iload_n 3, 1) := by decide +kernel
theorem dX9_belief_30 : decode cX9_belief 30 = .ok (.i2l, 1) := by decide +kernel
theorem dX9_belief_31 : decode cX9_belief 31 = .ok (.lconst 0, 1) := by decide +kernel
theorem dX9_belief_32 : decode cX9_belief 32 = .ok (.lconst 1, 1) := by decide +kernel
theorem dX9_belief_33 : decode cX9_belief 33 = .ok (.invokestatic 92, 3) := by decide +kernel
theorem dX9_belief_36 : decode cX9_belief 36 = .ok (.ifCond .ne 7, 3) := by decide +kernel
theorem dX9_belief_39 : decode cX9_belief 39 = .ok (.ldc2_w 225, 3) := by decide +kernel
theorem dX9_belief_42 : decode cX9_belief 42 = .ok (.lreturn, 1) := by decide +kernel
theorem dX9_belief_43 : decode cX9_belief 43 = .ok (.aload_n 0, 1) := by decide +kernel
theorem dX9_belief_44 : decode cX9_belief 44 = .ok (.getfield 98, 3) := by decide +kernel
theorem dX9_belief_47 : decode cX9_belief 47 = .ok (.ifCond .ne 7, 3) := by decide +kernel
theorem dX9_belief_50 : decode cX9_belief 50 = .ok (.ldc2_w 227, 3) := by decide +kernel
theorem dX9_belief_53 : decode cX9_belief 53 = .ok (.lreturn, 1) := by decide +kernel
theorem dX9_belief_54 : decode cX9_belief 54 = .ok (.aload_n 0, 1) := by decide +kernel
theorem dX9_belief_55 : decode cX9_belief 55 = .ok (.invokevirtual 169, 3) := by decide +kernel
theorem dX9_belief_58 : decode cX9_belief 58 = .ok (.lconst 0, 1) := by decide +kernel
theorem dX9_belief_59 : decode cX9_belief 59 = .ok (.lstore 4, 2) := by decide +kernel
theorem dX9_belief_61 : decode cX9_belief 61 = .ok (.lconst 0, 1) := by decide +kernel
theorem dX9_belief_62 : decode cX9_belief 62 = .ok (.lstore 6, 2) := by decide +kernel
theorem dX9_belief_64 : decode cX9_belief 64 = .ok (.iconst 0, 1) := by decide +kernel
theorem dX9_belief_65 : decode cX9_belief 65 = .ok (.istore 8, 2) := by decide +kernel
theorem dX9_belief_67 : decode cX9_belief 67 = .ok (.iload 8, 2) := by decide +kernel
theorem dX9_belief_69 : decode cX9_belief 69 = .ok (.iconst 4, 1) := by decide +kernel
theorem dX9_belief_70 : decode cX9_belief 70 = .ok (.iload_n 1, 1) := by decide +kernel
theorem dX9_belief_71 : decode cX9_belief 71 = .ok (.invokestatic 199, 3) := by decide +kernel
theorem dX9_belief_74 : decode cX9_belief 74 = .ok (.if_icmp .ge 79, 3) := by decide +kernel
theorem dX9_belief_77 : decode cX9_belief 77 = .ok (.aload_n 0, 1) := by decide +kernel
theorem dX9_belief_78 : decode cX9_belief 78 = .ok (.iload 8, 2) := by decide +kernel
theorem dX9_belief_80 : decode cX9_belief 80 = .ok (.iload_n 1, 1) := by decide +kernel
theorem dX9_belief_81 : decode cX9_belief 81 = .ok (.invokevirtual 202, 3) := by decide +kernel
theorem dX9_belief_84 : decode cX9_belief 84 = .ok (.aload_n 0, 1) := by decide +kernel
theorem dX9_belief_85 : decode cX9_belief 85 = .ok (.iload_n 1, 1) := by decide +kernel
theorem dX9_belief_86 : decode cX9_belief 86 = .ok (.invokevirtual 229, 3) := by decide +kernel
theorem dX9_belief_89 : decode cX9_belief 89 = .ok (.lstore 9, 2) := by decide +kernel
theorem dX9_belief_91 : decode cX9_belief 91 = .ok (.iload_n 2, 1) := by decide +kernel
theorem dX9_belief_92 : decode cX9_belief 92 = .ok (.iconst (-1), 1) := by decide +kernel
theorem dX9_belief_93 : decode cX9_belief 93 = .ok (.if_icmp .eq 17, 3) := by decide +kernel
theorem dX9_belief_96 : decode cX9_belief 96 = .ok (.iload_n 1, 1) := by decide +kernel
theorem dX9_belief_97 : decode cX9_belief 97 = .ok (.ifCond .le 17, 3) := by decide +kernel
theorem dX9_belief_100 : decode cX9_belief 100 = .ok (.aload_n 0, 1) := by decide +kernel
theorem dX9_belief_101 : decode cX9_belief 101 = .ok (.getfield 55, 3) := by decide +kernel
theorem dX9_belief_104 : decode cX9_belief 104 = .ok (.iconst 0, 1) := by decide +kernel
theorem dX9_belief_105 : decode cX9_belief 105 = .ok (.iaload, 1) := by decide +kernel
theorem dX9_belief_106 : decode cX9_belief 106 = .ok (.iload_n 2, 1) := by decide +kernel
theorem dX9_belief_107 : decode cX9_belief 107 = .ok (.if_icmp .ne 7, 3) := by decide +kernel
theorem dX9_belief_110 : decode cX9_belief 110 = .ok (.iconst 1, 1) := by decide +kernel
theorem dX9_belief_111 : decode cX9_belief 111 = .ok (.goto 4, 3) := by decide +kernel
theorem dX9_belief_114 : decode cX9_belief 114 = .ok (.iconst 0, 1) := by decide +kernel
theorem dX9_belief_115 : decode cX9_belief 115 = .ok (.istore 11, 2) := by decide +kernel
theorem dX9_belief_117 : decode cX9_belief 117 = .ok (.lload 6, 2) := by decide +kernel
theorem dX9_belief_119 : decode cX9_belief 119 = .ok (.lload 9, 2) := by decide +kernel
theorem dX9_belief_121 : decode cX9_belief 121 = .ok (.ladd, 1) := by decide +kernel
theorem dX9_belief_122 : decode cX9_belief 122 = .ok (.lstore 6, 2) := by decide +kernel
theorem dX9_belief_124 : decode cX9_belief 124 = .ok (.lload 4, 2) := by decide +kernel
theorem dX9_belief_126 : decode cX9_belief 126 = .ok (.iload 11, 2) := by decide +kernel
theorem dX9_belief_128 : decode cX9_belief 128 = .ok (.ifCond .eq 15, 3) := by decide +kernel
theorem dX9_belief_131 : decode cX9_belief 131 = .ok (.aload_n 0, 1) := by decide +kernel
theorem dX9_belief_132 : decode cX9_belief 132 = .ok (.invokevirtual 208, 3) := by decide +kernel
theorem dX9_belief_135 : decode cX9_belief 135 = .ok (.ifCond .eq 8, 3) := by decide +kernel
theorem dX9_belief_138 : decode cX9_belief 138 = .ok (.lload 9, 2) := by decide +kernel
theorem dX9_belief_140 : decode cX9_belief 140 = .ok (.goto 4, 3) := by decide +kernel
theorem dX9_belief_143 : decode cX9_belief 143 = .ok (.lconst 0, 1) := by decide +kernel
theorem dX9_belief_144 : decode cX9_belief 144 = .ok (.ladd, 1) := by decide +kernel
theorem dX9_belief_145 : decode cX9_belief 145 = .ok (.lstore 4, 2) := by decide +kernel
theorem dX9_belief_147 : decode cX9_belief 147 = .ok (.iinc 8 1, 3) := by decide +kernel
theorem dX9_belief_150 : decode cX9_belief 150 = .ok (.goto (-83), 3) := by decide +kernel
theorem dX9_belief_153 : decode cX9_belief 153 = .ok (.aload_n 0, 1) := by decide +kernel
theorem dX9_belief_154 : decode cX9_belief 154 = .ok (.invokevirtual 175, 3) := by decide +kernel
theorem dX9_belief_157 : decode cX9_belief 157 = .ok (.lload 4, 2) := by decide +kernel
theorem dX9_belief_159 : decode cX9_belief 159 = .ok (.lload 6, 2) := by decide +kernel
theorem dX9_belief_161 : decode cX9_belief 161 = .ok (.iload_n 3, 1) := by decide +kernel
theorem dX9_belief_162 : decode cX9_belief 162 = .ok (.invokestatic 233, 3) := by decide +kernel
theorem dX9_belief_165 : decode cX9_belief 165 = .ok (.lreturn, 1) := by decide +kernel
theorem dX9_tableNow_0 : decode cX9_tableNow 0 = .ok (.iconst 0, 1) := by decide +kernel
theorem dX9_tableNow_1 : decode cX9_tableNow 1 = .ok (.istore_n 1, 1) := by decide +kernel
theorem dX9_tableNow_2 : decode cX9_tableNow 2 = .ok (.iconst 0, 1) := by decide +kernel
theorem dX9_tableNow_3 : decode cX9_tableNow 3 = .ok (.istore_n 2, 1) := by decide +kernel
theorem dX9_tableNow_4 : decode cX9_tableNow 4 = .ok (.iload_n 2, 1) := by decide +kernel
theorem dX9_tableNow_5 : decode cX9_tableNow 5 = .ok (.aload_n 0, 1) := by decide +kernel
theorem dX9_tableNow_6 : decode cX9_tableNow 6 = .ok (.getfield 84, 3) := by decide +kernel
theorem dX9_tableNow_9 : decode cX9_tableNow 9 = .ok (.if_icmp .ge 25, 3) := by decide +kernel
theorem dX9_tableNow_12 : decode cX9_tableNow 12 = .ok (.bipush 10, 2) := by decide +kernel
theorem dX9_tableNow_14 : decode cX9_tableNow 14 = .ok (.iload_n 1, 1) := by decide +kernel
theorem dX9_tableNow_15 : decode cX9_tableNow 15 = .ok (.imul, 1) := by decide +kernel
theorem dX9_tableNow_16 : decode cX9_tableNow 16 = .ok (.aload_n 0, 1) := by decide +kernel
theorem dX9_tableNow_17 : decode cX9_tableNow 17 = .ok (.getfield 7, 3) := by decide +kernel
theorem dX9_tableNow_20 : decode cX9_tableNow 20 = .ok (.iconst 3, 1) := by decide +kernel
theorem dX9_tableNow_21 : decode cX9_tableNow 21 = .ok (.iload_n 2, 1) := by decide +kernel
theorem dX9_tableNow_22 : decode cX9_tableNow 22 = .ok (.invokestatic 88, 3) := by decide +kernel
theorem dX9_tableNow_25 : decode cX9_tableNow 25 = .ok (.iaload, 1) := by decide +kernel
theorem dX9_tableNow_26 : decode cX9_tableNow 26 = .ok (.iadd, 1) := by decide +kernel
theorem dX9_tableNow_27 : decode cX9_tableNow 27 = .ok (.istore_n 1, 1) := by decide +kernel
theorem dX9_tableNow_28 : decode cX9_tableNow 28 = .ok (.iinc 2 1, 3) := by decide +kernel
theorem dX9_tableNow_31 : decode cX9_tableNow 31 = .ok (.goto (-27), 3) := by decide +kernel
theorem dX9_tableNow_34 : decode cX9_tableNow 34 = .ok (.iload_n 1, 1) := by decide +kernel
theorem dX9_tableNow_35 : decode cX9_tableNow 35 = .ok (.ireturn, 1) := by decide +kernel
theorem dX9_findAlone_0 : decode cX9_findAlone 0 = .ok (.iconst 0, 1) := by decide +kernel
theorem dX9_findAlone_1 : decode cX9_findAlone 1 = .ok (.istore_n 1, 1) := by decide +kernel
theorem dX9_findAlone_2 : decode cX9_findAlone 2 = .ok (.iload_n 1, 1) := by decide +kernel
theorem dX9_findAlone_3 : decode cX9_findAlone 3 = .ok (.iconst 4, 1) := by decide +kernel
theorem dX9_findAlone_4 : decode cX9_findAlone 4 = .ok (.if_icmp .ge 58, 3) := by decide +kernel
theorem dX9_findAlone_7 : decode cX9_findAlone 7 = .ok (.aload_n 0, 1) := by decide +kernel
theorem dX9_findAlone_8 : decode cX9_findAlone 8 = .ok (.invokevirtual 175, 3) := by decide +kernel
theorem dX9_findAlone_11 : decode cX9_findAlone 11 = .ok (.aload_n 0, 1) := by decide +kernel
theorem dX9_findAlone_12 : decode cX9_findAlone 12 = .ok (.bipush (-6), 2) := by decide +kernel
theorem dX9_findAlone_14 : decode cX9_findAlone 14 = .ok (.putfield 127, 3) := by decide +kernel
theorem dX9_findAlone_17 : decode cX9_findAlone 17 = .ok (.aload_n 0, 1) := by decide +kernel
theorem dX9_findAlone_18 : decode cX9_findAlone 18 = .ok (.iload_n 1, 1) := by decide +kernel
theorem dX9_findAlone_19 : decode cX9_findAlone 19 = .ok (.invokevirtual 113, 3) := by decide +kernel
theorem dX9_findAlone_22 : decode cX9_findAlone 22 = .ok (.ifCond .eq 11, 3) := by decide +kernel
theorem dX9_findAlone_25 : decode cX9_findAlone 25 = .ok (.aload_n 0, 1) := by decide +kernel
theorem dX9_findAlone_26 : decode cX9_findAlone 26 = .ok (.iload_n 1, 1) := by decide +kernel
theorem dX9_findAlone_27 : decode cX9_findAlone 27 = .ok (.invokevirtual 139, 3) := by decide +kernel
theorem dX9_findAlone_30 : decode cX9_findAlone 30 = .ok (.goto 5, 3) := by decide +kernel
theorem dX9_findAlone_33 : decode cX9_findAlone 33 = .ok (.bipush (-6), 2) := by decide +kernel
theorem dX9_findAlone_35 : decode cX9_findAlone 35 = .ok (.istore_n 2, 1) := by decide +kernel
theorem dX9_findAlone_36 : decode cX9_findAlone 36 = .ok (.iload_n 2, 1) := by decide +kernel
theorem dX9_findAlone_37 : decode cX9_findAlone 37 = .ok (.ifCond .lt 9, 3) := by decide +kernel
theorem dX9_findAlone_40 : decode cX9_findAlone 40 = .ok (.aload_n 0, 1) := by decide +kernel
theorem dX9_findAlone_41 : decode cX9_findAlone 41 = .ok (.iload_n 1, 1) := by decide +kernel
theorem dX9_findAlone_42 : decode cX9_findAlone 42 = .ok (.iload_n 2, 1) := by decide +kernel
theorem dX9_findAlone_43 : decode cX9_findAlone 43 = .ok (.invokevirtual 151, 3) := by decide +kernel
theorem dX9_findAlone_46 : decode cX9_findAlone 46 = .ok (.aload_n 0, 1) := by decide +kernel
theorem dX9_findAlone_47 : decode cX9_findAlone 47 = .ok (.getfield 67, 3) := by decide +kernel
theorem dX9_findAlone_50 : decode cX9_findAlone 50 = .ok (.iload_n 1, 1) := by decide +kernel
theorem dX9_findAlone_51 : decode cX9_findAlone 51 = .ok (.aload_n 0, 1) := by decide +kernel
theorem dX9_findAlone_52 : decode cX9_findAlone 52 = .ok (.invokevirtual 237, 3) := by decide +kernel
theorem dX9_findAlone_55 : decode cX9_findAlone 55 = .ok (.iastore, 1) := by decide +kernel
theorem dX9_findAlone_56 : decode cX9_findAlone 56 = .ok (.iinc 1 1, 3) := by decide +kernel
theorem dX9_findAlone_59 : decode cX9_findAlone 59 = .ok (.goto (-57), 3) := by decide +kernel
theorem dX9_findAlone_62 : decode cX9_findAlone 62 = .ok (.aload_n 0, 1) := by decide +kernel
theorem dX9_findAlone_63 : decode cX9_findAlone 63 = .ok (.invokevirtual 175, 3) := by decide +kernel
theorem dX9_findAlone_66 : decode cX9_findAlone 66 = .ok (.return_, 1) := by decide +kernel
