theorem dK5_weigh_60 : decode cK5_weigh 60 = .ok (.iload_n 2, 1) := by decide +kernel
theorem dK5_weigh_61 : decode cK5_weigh 61 = .ok (.bipush 100, 2) := by decide +kernel
theorem dK5_weigh_63 : decode cK5_weigh 63 = .ok (.aload_n 0, 1) := by decide +kernel
theorem dK5_weigh_64 : decode cK5_weigh 64 = .ok (.aload_n 0, 1) := by decide +kernel
theorem dK5_weigh_65 : decode cK5_weigh 65 = .ok (.getfield 153, 3) := by decide +kernel
theorem dK5_weigh_68 : decode cK5_weigh 68 = .ok (.invokevirtual 144, 3) := by decide +kernel
theorem dK5_weigh_71 : decode cK5_weigh 71 = .ok (.imul, 1) := by decide +kernel
theorem dK5_weigh_72 : decode cK5_weigh 72 = .ok (.aload_n 0, 1) := by decide +kernel
theorem dK5_weigh_73 : decode cK5_weigh 73 = .ok (.getfield 153, 3) := by decide +kernel
theorem dK5_weigh_76 : decode cK5_weigh 76 = .ok (.invokestatic 147, 3) := by decide +kernel
theorem dK5_weigh_79 : decode cK5_weigh 79 = .ok (.iadd, 1) := by decide +kernel
theorem dK5_weigh_80 : decode cK5_weigh 80 = .ok (.if_icmp .ge 13, 3) := by decide +kernel
theorem dK5_weigh_83 : decode cK5_weigh 83 = .ok (.aload_n 0, 1) := by decide +kernel
theorem dK5_weigh_84 : decode cK5_weigh 84 = .ok (.iload_n 1, 1) := by decide +kernel
theorem dK5_weigh_85 : decode cK5_weigh 85 = .ok (.putfield 153, 3) := by decide +kernel
theorem dK5_weigh_88 : decode cK5_weigh 88 = .ok (.aload_n 0, 1) := by decide +kernel
theorem dK5_weigh_89 : decode cK5_weigh 89 = .ok (.iconst 1, 1) := by decide +kernel
theorem dK5_weigh_90 : decode cK5_weigh 90 = .ok (.putfield 117, 3) := by decide +kernel
theorem dK5_weigh_93 : decode cK5_weigh 93 = .ok (.return_, 1) := by decide +kernel
theorem dK5_settled_0 : decode cK5_settled 0 = .ok (.aload_n 0, 1) := by decide +kernel
theorem dK5_settled_1 : decode cK5_settled 1 = .ok (.getfield 57, 3) := by decide +kernel
theorem dK5_settled_4 : decode cK5_settled 4 = .ok (.ireturn, 1) := by decide +kernel
theorem dK5_tried_0 : decode cK5_tried 0 = .ok (.aload_n 0, 1) := by decide +kernel
theorem dK5_tried_1 : decode cK5_tried 1 = .ok (.getfield 120, 3) := by decide +kernel
theorem dK5_tried_4 : decode cK5_tried 4 = .ok (.ireturn, 1) := by decide +kernel
theorem dK5_set_0 : decode cK5_set 0 = .ok (.aload_n 0, 1) := by decide +kernel
theorem dK5_set_1 : decode cK5_set 1 = .ok (.iload_n 1, 1) := by decide +kernel
theorem dK5_set_2 : decode cK5_set 2 = .ok (.invokevirtual 156, 3) := by decide +kernel
theorem dK5_set_5 : decode cK5_set 5 = .ok (.ifCond .eq 16, 3) := by decide +kernel
theorem dK5_set_8 : decode cK5_set 8 = .ok (.aload_n 0, 1) := by decide +kernel
theorem dK5_set_9 : decode cK5_set 9 = .ok (.getfield 42, 3) := by decide +kernel
theorem dK5_set_12 : decode cK5_set 12 = .ok (.iload_n 1, 1) := by decide +kernel
theorem dK5_set_13 : decode cK5_set 13 = .ok (.iaload, 1) := by decide +kernel
theorem dK5_set_14 : decode cK5_set 14 = .ok (.iload_n 2, 1) := by decide +kernel
theorem dK5_set_15 : decode cK5_set 15 = .ok (.invokestatic 159, 3) := by decide +kernel
theorem dK5_set_18 : decode cK5_set 18 = .ok (.goto 5, 3) := by decide +kernel
theorem dK5_set_21 : decode cK5_set 21 = .ok (.bipush (-2), 2) := by decide +kernel
theorem dK5_set_23 : decode cK5_set 23 = .ok (.ireturn, 1) := by decide +kernel
theorem dK5_isFound_0 : decode cK5_isFound 0 = .ok (.iload_n 1, 1) := by decide +kernel
theorem dK5_isFound_1 : decode cK5_isFound 1 = .ok (.iconst 0, 1) := by decide +kernel
theorem dK5_isFound_2 : decode cK5_isFound 2 = .ok (.aload_n 0, 1) := by decide +kernel
theorem dK5_isFound_3 : decode cK5_isFound 3 = .ok (.getfield 114, 3) := by decide +kernel
theorem dK5_isFound_6 : decode cK5_isFound 6 = .ok (.iconst 1, 1) := by decide +kernel
theorem dK5_isFound_7 : decode cK5_isFound 7 = .ok (.isub, 1) := by decide +kernel
theorem dK5_isFound_8 : decode cK5_isFound 8 = .ok (.invokestatic 61, 3) := by decide +kernel
theorem dK5_isFound_11 : decode cK5_isFound 11 = .ok (.ireturn, 1) := by decide +kernel
theorem dK5_member_0 : decode cK5_member 0 = .ok (.iload_n 1, 1) := by decide +kernel
theorem dK5_member_1 : decode cK5_member 1 = .ok (.istore_n 2, 1) := by decide +kernel
theorem dK5_member_2 : decode cK5_member 2 = .ok (.iconst 0, 1) := by decide +kernel
theorem dK5_member_3 : decode cK5_member 3 = .ok (.istore_n 3, 1) := by decide +kernel
theorem dK5_member_4 : decode cK5_member 4 = .ok (.iload_n 3, 1) := by decide +kernel
theorem dK5_member_5 : decode cK5_member 5 = .ok (.bipush 12, 2) := by decide +kernel
theorem dK5_member_7 : decode cK5_member 7 = .ok (.if_icmp .ge 31, 3) := by decide +kernel
theorem dK5_member_10 : decode cK5_member 10 = .ok (.iload_n 1, 1) := by decide +kernel
theorem dK5_member_11 : decode cK5_member 11 = .ok (.ifCond .lt 27, 3) := by decide +kernel
theorem dK5_member_14 : decode cK5_member 14 = .ok (.iload_n 0, 1) := by decide +kernel
theorem dK5_member_15 : decode cK5_member 15 = .ok (.iload_n 3, 1) := by decide +kernel
theorem dK5_member_16 : decode cK5_member 16 = .ok (.ishr, 1) := by decide +kernel
theorem dK5_member_17 : decode cK5_member 17 = .ok (.iconst 1, 1) := by decide +kernel
theorem dK5_member_18 : decode cK5_member 18 = .ok (.iand, 1) := by decide +kernel
theorem dK5_member_19 : decode cK5_member 19 = .ok (.iconst 1, 1) := by decide +kernel
theorem dK5_member_20 : decode cK5_member 20 = .ok (.if_icmp .ne 12, 3) := by decide +kernel
theorem dK5_member_23 : decode cK5_member 23 = .ok (.iload_n 2, 1) := by decide +kernel
theorem dK5_member_24 : decode cK5_member 24 = .ok (.ifCond .ne 5, 3) := by decide +kernel
theorem dK5_member_27 : decode cK5_member 27 = .ok (.iload_n 3, 1) := by decide +kernel
theorem dK5_member_28 : decode cK5_member 28 = .ok (.ireturn, 1) := by decide +kernel
theorem dK5_member_29 : decode cK5_member 29 = .ok (.iinc 2 (-1), 3) := by decide +kernel
theorem dK5_member_32 : decode cK5_member 32 = .ok (.iinc 3 1, 3) := by decide +kernel
theorem dK5_member_35 : decode cK5_member 35 = .ok (.goto (-31), 3) := by decide +kernel
theorem dK5_member_38 : decode cK5_member 38 = .ok (.bipush (-2), 2) := by decide +kernel
theorem dK5_member_40 : decode cK5_member 40 = .ok (.ireturn, 1) := by decide +kernel
theorem dK5_weight_0 : decode cK5_weight 0 = .ok (.aload_n 0, 1) := by decide +kernel
theorem dK5_weight_1 : decode cK5_weight 1 = .ok (.iload_n 1, 1) := by decide +kernel
theorem dK5_weight_2 : decode cK5_weight 2 = .ok (.invokevirtual 156, 3) := by decide +kernel
theorem dK5_weight_5 : decode cK5_weight 5 = .ok (.ifCond .eq 16, 3) := by decide +kernel
theorem dK5_weight_8 : decode cK5_weight 8 = .ok (.aload_n 0, 1) := by decide +kernel
theorem dK5_weight_9 : decode cK5_weight 9 = .ok (.aload_n 0, 1) := by decide +kernel
theorem dK5_weight_10 : decode cK5_weight 10 = .ok (.getfield 42, 3) := by decide +kernel
theorem dK5_weight_13 : decode cK5_weight 13 = .ok (.iload_n 1, 1) := by decide +kernel
theorem dK5_weight_14 : decode cK5_weight 14 = .ok (.iaload, 1) := by decide +kernel
theorem dK5_weight_15 : decode cK5_weight 15 = .ok (.invokevirtual 144, 3) := by decide +kernel
theorem dK5_weight_18 : decode cK5_weight 18 = .ok (.goto 5, 3) := by decide +kernel
theorem dK5_weight_21 : decode cK5_weight 21 = .ok (.bipush (-2), 2) := by decide +kernel
theorem dK5_weight_23 : decode cK5_weight 23 = .ok (.ireturn, 1) := by decide +kernel
theorem dK5_breaks_0 : decode cK5_breaks 0 = .ok (.aload_n 0, 1) := by decide +kernel
theorem dK5_breaks_1 : decode cK5_breaks 1 = .ok (.iload_n 1, 1) := by decide +kernel
theorem dK5_breaks_2 : decode cK5_breaks 2 = .ok (.invokevirtual 156, 3) := by decide +kernel
theorem dK5_breaks_5 : decode cK5_breaks 5 = .ok (.ifCond .ne 6, 3) := by decide +kernel
theorem dK5_breaks_8 : decode cK5_breaks 8 = .ok (.bipush (-2), 2) := by decide +kernel
theorem dK5_breaks_10 : decode cK5_breaks 10 = .ok (.ireturn, 1) := by decide +kernel
theorem dK5_breaks_11 : decode cK5_breaks 11 = .ok (.iload_n 2, 1) := by decide +kernel
theorem dK5_breaks_12 : decode cK5_breaks 12 = .ok (.istore_n 3, 1) := by decide +kernel
theorem dK5_breaks_13 : decode cK5_breaks 13 = .ok (.iconst 0, 1) := by decide +kernel
theorem dK5_breaks_14 : decode cK5_breaks 14 = .ok (.istore 4, 2) := by decide +kernel
theorem dK5_breaks_16 : decode cK5_breaks 16 = .ok (.iload 4, 2) := by decide +kernel
theorem dK5_breaks_18 : decode cK5_breaks 18 = .ok (.bipush 12, 2) := by decide +kernel
theorem dK5_breaks_20 : decode cK5_breaks 20 = .ok (.aload_n 0, 1) := by decide +kernel
theorem dK5_breaks_21 : decode cK5_breaks 21 = .ok (.getfield 72, 3) := by decide +kernel
theorem dK5_breaks_24 : decode cK5_breaks 24 = .ok (.imul, 1) := by decide +kernel
theorem dK5_breaks_25 : decode cK5_breaks 25 = .ok (.if_icmp .ge 98, 3) := by decide +kernel
theorem dK5_breaks_28 : decode cK5_breaks 28 = .ok (.iload_n 2, 1) := by decide +kernel
theorem dK5_breaks_29 : decode cK5_breaks 29 = .ok (.ifCond .lt 94, 3) := by decide +kernel
theorem dK5_breaks_32 : decode cK5_breaks 32 = .ok (.aload_n 0, 1) := by decide +kernel
theorem dK5_breaks_33 : decode cK5_breaks 33 = .ok (.iconst 0, 1) := by decide +kernel
theorem dK5_breaks_34 : decode cK5_breaks 34 = .ok (.invokevirtual 88, 3) := by decide +kernel
theorem dK5_breaks_37 : decode cK5_breaks 37 = .ok (.aload_n 0, 1) := by decide +kernel
theorem dK5_breaks_38 : decode cK5_breaks 38 = .ok (.iload 4, 2) := by decide +kernel
theorem dK5_breaks_40 : decode cK5_breaks 40 = .ok (.bipush 12, 2) := by decide +kernel
theorem dK5_breaks_42 : decode cK5_breaks 42 = .ok (.idiv, 1) := by decide +kernel
theorem dK5_breaks_43 : decode cK5_breaks 43 = .ok (.iload 4, 2) := by decide +kernel
theorem dK5_breaks_45 : decode cK5_breaks 45 = .ok (.bipush 12, 2) := by decide +kernel
theorem dK5_breaks_47 : decode cK5_breaks 47 = .ok (.irem, 1) := by decide +kernel
theorem dK5_breaks_48 : decode cK5_breaks 48 = .ok (.invokevirtual 85, 3) := by decide +kernel
theorem dK5_breaks_51 : decode cK5_breaks 51 = .ok (.istore 5, 2) := by decide +kernel
theorem dK5_breaks_53 : decode cK5_breaks 53 = .ok (.aload_n 0, 1) := by decide +kernel
theorem dK5_breaks_54 : decode cK5_breaks 54 = .ok (.aload_n 0, 1) := by decide +kernel
theorem dK5_breaks_55 : decode cK5_breaks 55 = .ok (.getfield 42, 3) := by decide +kernel
theorem dK5_breaks_58 : decode cK5_breaks 58 = .ok (.iload_n 1, 1) := by decide +kernel
theorem dK5_breaks_59 : decode cK5_breaks 59 = .ok (.iaload, 1) := by decide +kernel
theorem dK5_breaks_60 : decode cK5_breaks 60 = .ok (.invokevirtual 88, 3) := by decide +kernel
theorem dK5_breaks_63 : decode cK5_breaks 63 = .ok (.iload 5, 2) := by decide +kernel
theorem dK5_breaks_65 : decode cK5_breaks 65 = .ok (.ifCond .ne 24, 3) := by decide +kernel
theorem dK5_breaks_68 : decode cK5_breaks 68 = .ok (.aload_n 0, 1) := by decide +kernel
theorem dK5_breaks_69 : decode cK5_breaks 69 = .ok (.iload 4, 2) := by decide +kernel
theorem dK5_breaks_71 : decode cK5_breaks 71 = .ok (.bipush 12, 2) := by decide +kernel
theorem dK5_breaks_73 : decode cK5_breaks 73 = .ok (.idiv, 1) := by decide +kernel
theorem dK5_breaks_74 : decode cK5_breaks 74 = .ok (.iload 4, 2) := by decide +kernel
theorem dK5_breaks_76 : decode cK5_breaks 76 = .ok (.bipush 12, 2) := by decide +kernel
theorem dK5_breaks_78 : decode cK5_breaks 78 = .ok (.irem, 1) := by decide +kernel
theorem dK5_breaks_79 : decode cK5_breaks 79 = .ok (.invokevirtual 85, 3) := by decide +kernel
theorem dK5_breaks_82 : decode cK5_breaks 82 = .ok (.ifCond .eq 7, 3) := by decide +kernel
theorem dK5_breaks_85 : decode cK5_breaks 85 = .ok (.iconst 1, 1) := by decide +kernel
theorem dK5_breaks_86 : decode cK5_breaks 86 = .ok (.goto 4, 3) := by decide +kernel
theorem dK5_breaks_89 : decode cK5_breaks 89 = .ok (.iconst 0, 1) := by decide +kernel
theorem dK5_breaks_90 : decode cK5_breaks 90 = .ok (.istore 6, 2) := by decide +kernel
theorem dK5_breaks_92 : decode cK5_breaks 92 = .ok (.iload 6, 2) := by decide +kernel
theorem dK5_breaks_94 : decode cK5_breaks 94 = .ok (.ifCond .eq 10, 3) := by decide +kernel
theorem dK5_breaks_97 : decode cK5_breaks 97 = .ok (.iload_n 3, 1) := by decide +kernel
theorem dK5_breaks_98 : decode cK5_breaks 98 = .ok (.ifCond .ne 6, 3) := by decide +kernel
theorem dK5_breaks_101 : decode cK5_breaks 101 = .ok (.iload 4, 2) := by decide +kernel
theorem dK5_breaks_103 : decode cK5_breaks 103 = .ok (.ireturn, 1) := by decide +kernel
theorem dK5_breaks_104 : decode cK5_breaks 104 = .ok (.iload_n 3, 1) := by decide +kernel
theorem dK5_breaks_105 : decode cK5_breaks 105 = .ok (.iload 6, 2) := by decide +kernel
theorem dK5_breaks_107 : decode cK5_breaks 107 = .ok (.ifCond .eq 7, 3) := by decide +kernel
theorem dK5_breaks_110 : decode cK5_breaks 110 = .ok (.iconst 1, 1) := by decide +kernel
theorem dK5_breaks_111 : decode cK5_breaks 111 = .ok (.goto 4, 3) := by decide +kernel
theorem dK5_breaks_114 : decode cK5_breaks 114 = .ok (.iconst 0, 1) := by decide +kernel
theorem dK5_breaks_115 : decode cK5_breaks 115 = .ok (.isub, 1) := by decide +kernel
theorem dK5_breaks_116 : decode cK5_breaks 116 = .ok (.istore_n 3, 1) := by decide +kernel
theorem dK5_breaks_117 : decode cK5_breaks 117 = .ok (.iinc 4 1, 3) := by decide +kernel
theorem dK5_breaks_120 : decode cK5_breaks 120 = .ok (.goto (-104), 3) := by decide +kernel
theorem dK5_breaks_123 : decode cK5_breaks 123 = .ok (.bipush (-2), 2) := by decide +kernel
theorem dK5_breaks_125 : decode cK5_breaks 125 = .ok (.ireturn, 1) := by decide +kernel
theorem dK5_apply_0 : decode cK5_apply 0 = .ok (.aload_n 0, 1) := by decide +kernel
theorem dK5_apply_1 : decode cK5_apply 1 = .ok (.iload_n 1, 1) := by decide +kernel
theorem dK5_apply_2 : decode cK5_apply 2 = .ok (.invokevirtual 156, 3) := by decide +kernel
theorem dK5_apply_5 : decode cK5_apply 5 = .ok (.ifCond .ne 6, 3) := by decide +kernel
theorem dK5_apply_8 : decode cK5_apply 8 = .ok (.bipush (-2), 2) := by decide +kernel
theorem dK5_apply_10 : decode cK5_apply 10 = .ok (.ireturn, 1) := by decide +kernel
theorem dK5_apply_11 : decode cK5_apply 11 = .ok (.aload_n 0, 1) := by decide +kernel
theorem dK5_apply_12 : decode cK5_apply 12 = .ok (.aload_n 0, 1) := by decide +kernel
theorem dK5_apply_13 : decode cK5_apply 13 = .ok (.getfield 42, 3) := by decide +kernel
theorem dK5_apply_16 : decode cK5_apply 16 = .ok (.iload_n 1, 1) := by decide +kernel
theorem dK5_apply_17 : decode cK5_apply 17 = .ok (.iaload, 1) := by decide +kernel
theorem dK5_apply_18 : decode cK5_apply 18 = .ok (.invokevirtual 88, 3) := by decide +kernel
theorem dK5_apply_21 : decode cK5_apply 21 = .ok (.iconst 0, 1) := by decide +kernel
theorem dK5_apply_22 : decode cK5_apply 22 = .ok (.istore_n 2, 1) := by decide +kernel
theorem dK5_apply_23 : decode cK5_apply 23 = .ok (.iload_n 2, 1) := by decide +kernel
theorem dK5_apply_24 : decode cK5_apply 24 = .ok (.sipush 864, 3) := by decide +kernel
theorem dK5_apply_27 : decode cK5_apply 27 = .ok (.if_icmp .ge 21, 3) := by decide +kernel
theorem dK5_apply_30 : decode cK5_apply 30 = .ok (.aload_n 0, 1) := by decide +kernel
theorem dK5_apply_31 : decode cK5_apply 31 = .ok (.getfield 7, 3) := by decide +kernel
theorem dK5_apply_34 : decode cK5_apply 34 = .ok (.iload_n 2, 1) := by decide +kernel
theorem dK5_apply_35 : decode cK5_apply 35 = .ok (.aload_n 0, 1) := by decide +kernel
theorem dK5_apply_36 : decode cK5_apply 36 = .ok (.getfield 13, 3) := by decide +kernel
theorem dK5_apply_39 : decode cK5_apply 39 = .ok (.iload_n 2, 1) := by decide +kernel
theorem dK5_apply_40 : decode cK5_apply 40 = .ok (.baload, 1) := by decide +kernel
theorem dK5_apply_41 : decode cK5_apply 41 = .ok (.bastore, 1) := by decide +kernel
theorem dK5_apply_42 : decode cK5_apply 42 = .ok (.iinc 2 1, 3) := by decide +kernel
theorem dK5_apply_45 : decode cK5_apply 45 = .ok (.goto (-22), 3) := by decide +kernel
theorem dK5_apply_48 : decode cK5_apply 48 = .ok (.aload_n 0, 1) := by decide +kernel
theorem dK5_apply_49 : decode cK5_apply 49 = .ok (.iconst 0, 1) := by decide +kernel
theorem dK5_apply_50 : decode cK5_apply 50 = .ok (.putfield 114, 3) := by decide +kernel
theorem dK5_apply_53 : decode cK5_apply 53 = .ok (.aload_n 0, 1) := by decide +kernel
theorem dK5_apply_54 : decode cK5_apply 54 = .ok (.invokevirtual 92, 3) := by decide +kernel
theorem dK5_apply_57 : decode cK5_apply 57 = .ok (.ireturn, 1) := by decide +kernel
theorem dK5_covered_0 : decode cK5_covered 0 = .ok (.aload_n 0, 1) := by decide +kernel
theorem dK5_covered_1 : decode cK5_covered 1 = .ok (.getfield 117, 3) := by decide +kernel
theorem dK5_covered_4 : decode cK5_covered 4 = .ok (.ifCond .eq 14, 3) := by decide +kernel
theorem dK5_covered_7 : decode cK5_covered 7 = .ok (.aload_n 0, 1) := by decide +kernel
theorem dK5_covered_8 : decode cK5_covered 8 = .ok (.getfield 153, 3) := by decide +kernel
theorem dK5_covered_11 : decode cK5_covered 11 = .ok (.iload_n 1, 1) := by decide +kernel
theorem dK5_covered_12 : decode cK5_covered 12 = .ok (.invokestatic 159, 3) := by decide +kernel
theorem dK5_covered_15 : decode cK5_covered 15 = .ok (.goto 5, 3) := by decide +kernel
theorem dK5_covered_18 : decode cK5_covered 18 = .ok (.bipush (-2), 2) := by decide +kernel
theorem dK5_covered_20 : decode cK5_covered 20 = .ok (.ireturn, 1) := by decide +kernel
theorem dK5_sentence_0 : decode cK5_sentence 0 = .ok (.aload_n 0, 1) := by decide +kernel
theorem dK5_sentence_1 : decode cK5_sentence 1 = .ok (.iload_n 1, 1) := by decide +kernel
theorem dK5_sentence_2 : decode cK5_sentence 2 = .ok (.invokevirtual 156, 3) := by decide +kernel
theorem dK5_sentence_5 : decode cK5_sentence 5 = .ok (.ifCond .ne 6, 3) := by decide +kernel
theorem dK5_sentence_8 : decode cK5_sentence 8 = .ok (.bipush (-2), 2) := by decide +kernel
theorem dK5_sentence_10 : decode cK5_sentence 10 = .ok (.ireturn, 1) := by decide +kernel
theorem dK5_sentence_11 : decode cK5_sentence 11 = .ok (.aload_n 0, 1) := by decide +kernel
theorem dK5_sentence_12 : decode cK5_sentence 12 = .ok (.iconst 0, 1) := by decide +kernel
theorem dK5_sentence_13 : decode cK5_sentence 13 = .ok (.putfield 163, 3) := by decide +kernel
theorem dK5_sentence_16 : decode cK5_sentence 16 = .ok (.iconst 0, 1) := by decide +kernel
theorem dK5_sentence_17 : decode cK5_sentence 17 = .ok (.istore_n 2, 1) := by decide +kernel
theorem dK5_sentence_18 : decode cK5_sentence 18 = .ok (.iload_n 2, 1) := by decide +kernel
theorem dK5_sentence_19 : decode cK5_sentence 19 = .ok (.bipush 12, 2) := by decide +kernel
theorem dK5_sentence_21 : decode cK5_sentence 21 = .ok (.if_icmp .ge 138, 3) := by decide +kernel
theorem dK5_sentence_24 : decode cK5_sentence 24 = .ok (.aload_n 0, 1) := by decide +kernel
theorem dK5_sentence_25 : decode cK5_sentence 25 = .ok (.getfield 42, 3) := by decide +kernel
theorem dK5_sentence_28 : decode cK5_sentence 28 = .ok (.iload_n 1, 1) := by decide +kernel
theorem dK5_sentence_29 : decode cK5_sentence 29 = .ok (.iaload, 1) := by decide +kernel
theorem dK5_sentence_30 : decode cK5_sentence 30 = .ok (.iload_n 2, 1) := by decide +kernel
theorem dK5_sentence_31 : decode cK5_sentence 31 = .ok (.ishr, 1) := by decide +kernel
theorem dK5_sentence_32 : decode cK5_sentence 32 = .ok (.iconst 1, 1) := by decide +kernel
theorem dK5_sentence_33 : decode cK5_sentence 33 = .ok (.iand, 1) := by decide +kernel
theorem dK5_sentence_34 : decode cK5_sentence 34 = .ok (.iconst 1, 1) := by decide +kernel
theorem dK5_sentence_35 : decode cK5_sentence 35 = .ok (.if_icmp .ne 118, 3) := by decide +kernel
theorem dK5_sentence_38 : decode cK5_sentence 38 = .ok (.aload_n 0, 1) := by decide +kernel
theorem dK5_sentence_39 : decode cK5_sentence 39 = .ok (.getfield 163, 3) := by decide +kernel
theorem dK5_sentence_42 : decode cK5_sentence 42 = .ok (.ifCond .le 15, 3) := by decide +kernel
theorem dK5_sentence_45 : decode cK5_sentence 45 = .ok (.aload_n 0, 1) := by decide +kernel
theorem dK5_sentence_46 : decode cK5_sentence 46 = .ok (.bipush 44, 2) := by decide +kernel
theorem dK5_sentence_48 : decode cK5_sentence 48 = .ok (.invokevirtual 166, 3) := by decide +kernel
theorem dK5_sentence_51 : decode cK5_sentence 51 = .ok (.aload_n 0, 1) := by decide +kernel
theorem dK5_sentence_52 : decode cK5_sentence 52 = .ok (.bipush 32, 2) := by decide +kernel
theorem dK5_sentence_54 : decode cK5_sentence 54 = .ok (.invokevirtual 166, 3) := by decide +kernel
theorem dK5_sentence_57 : decode cK5_sentence 57 = .ok (.aload_n 0, 1) := by decide +kernel
theorem dK5_sentence_58 : decode cK5_sentence 58 = .ok (.getfield 29, 3) := by decide +kernel
theorem dK5_sentence_61 : decode cK5_sentence 61 = .ok (.iload_n 2, 1) := by decide +kernel
theorem dK5_sentence_62 : decode cK5_sentence 62 = .ok (.baload, 1) := by decide +kernel
theorem dK5_sentence_63 : decode cK5_sentence 63 = .ok (.ifCond .eq 24, 3) := by decide +kernel
theorem dK5_sentence_66 : decode cK5_sentence 66 = .ok (.aload_n 0, 1) := by decide +kernel
theorem dK5_sentence_67 : decode cK5_sentence 67 = .ok (.bipush 112, 2) := by decide +kernel
theorem dK5_sentence_69 : decode cK5_sentence 69 = .ok (.invokevirtual 166, 3) := by decide +kernel
theorem dK5_sentence_72 : decode cK5_sentence 72 = .ok (.aload_n 0, 1) := by decide +kernel
theorem dK5_sentence_73 : decode cK5_sentence 73 = .ok (.bipush 117, 2) := by decide +kernel
theorem dK5_sentence_75 : decode cK5_sentence 75 = .ok (.invokevirtual 166, 3) := by decide +kernel
theorem dK5_sentence_78 : decode cK5_sentence 78 = .ok (.aload_n 0, 1) := by decide +kernel
theorem dK5_sentence_79 : decode cK5_sentence 79 = .ok (.bipush 116, 2) := by decide +kernel
theorem dK5_sentence_81 : decode cK5_sentence 81 = .ok (.invokevirtual 166, 3) := by decide +kernel
theorem dK5_sentence_84 : decode cK5_sentence 84 = .ok (.goto 27, 3) := by decide +kernel
theorem dK5_sentence_87 : decode cK5_sentence 87 = .ok (.aload_n 0, 1) := by decide +kernel
theorem dK5_sentence_88 : decode cK5_sentence 88 = .ok (.bipush 116, 2) := by decide +kernel
theorem dK5_sentence_90 : decode cK5_sentence 90 = .ok (.invokevirtual 166, 3) := by decide +kernel
theorem dK5_sentence_93 : decode cK5_sentence 93 = .ok (.aload_n 0, 1) := by decide +kernel
theorem dK5_sentence_94 : decode cK5_sentence 94 = .ok (.bipush 97, 2) := by decide +kernel
theorem dK5_sentence_96 : decode cK5_sentence 96 = .ok (.invokevirtual 166, 3) := by decide +kernel
theorem dK5_sentence_99 : decode cK5_sentence 99 = .ok (.aload_n 0, 1) := by decide +kernel
theorem dK5_sentence_100 : decode cK5_sentence 100 = .ok (.bipush 107, 2) := by decide +kernel
theorem dK5_sentence_102 : decode cK5_sentence 102 = .ok (.invokevirtual 166, 3) := by decide +kernel
theorem dK5_sentence_105 : decode cK5_sentence 105 = .ok (.aload_n 0, 1) := by decide +kernel
theorem dK5_sentence_106 : decode cK5_sentence 106 = .ok (.bipush 101, 2) := by decide +kernel
theorem dK5_sentence_108 : decode cK5_sentence 108 = .ok (.invokevirtual 166, 3) := by decide +kernel
theorem dK5_sentence_111 : decode cK5_sentence 111 = .ok (.aload_n 0, 1) := by decide +kernel
theorem dK5_sentence_112 : decode cK5_sentence 112 = .ok (.aload_n 0, 1) := by decide +kernel
theorem dK5_sentence_113 : decode cK5_sentence 113 = .ok (.getfield 32, 3) := by decide +kernel
theorem dK5_sentence_116 : decode cK5_sentence 116 = .ok (.iload_n 2, 1) := by decide +kernel
theorem dK5_sentence_117 : decode cK5_sentence 117 = .ok (.iaload, 1) := by decide +kernel
theorem dK5_sentence_118 : decode cK5_sentence 118 = .ok (.bipush 72, 2) := by decide +kernel
theorem dK5_sentence_120 : decode cK5_sentence 120 = .ok (.idiv, 1) := by decide +kernel
theorem dK5_sentence_121 : decode cK5_sentence 121 = .ok (.invokevirtual 169, 3) := by decide +kernel
theorem dK5_sentence_124 : decode cK5_sentence 124 = .ok (.aload_n 0, 1) := by decide +kernel
theorem dK5_sentence_125 : decode cK5_sentence 125 = .ok (.aload_n 0, 1) := by decide +kernel
theorem dK5_sentence_126 : decode cK5_sentence 126 = .ok (.getfield 32, 3) := by decide +kernel
theorem dK5_sentence_129 : decode cK5_sentence 129 = .ok (.iload_n 2, 1) := by decide +kernel
theorem dK5_sentence_130 : decode cK5_sentence 130 = .ok (.iaload, 1) := by decide +kernel
theorem dK5_sentence_131 : decode cK5_sentence 131 = .ok (.bipush 12, 2) := by decide +kernel
theorem dK5_sentence_133 : decode cK5_sentence 133 = .ok (.idiv, 1) := by decide +kernel
theorem dK5_sentence_134 : decode cK5_sentence 134 = .ok (.bipush 6, 2) := by decide +kernel
theorem dK5_sentence_136 : decode cK5_sentence 136 = .ok (.irem, 1) := by decide +kernel
theorem dK5_sentence_137 : decode cK5_sentence 137 = .ok (.invokevirtual 169, 3) := by decide +kernel
theorem dK5_sentence_140 : decode cK5_sentence 140 = .ok (.aload_n 0, 1) := by decide +kernel
theorem dK5_sentence_141 : decode cK5_sentence 141 = .ok (.aload_n 0, 1) := by decide +kernel
theorem dK5_sentence_142 : decode cK5_sentence 142 = .ok (.getfield 32, 3) := by decide +kernel
theorem dK5_sentence_145 : decode cK5_sentence 145 = .ok (.iload_n 2, 1) := by decide +kernel
theorem dK5_sentence_146 : decode cK5_sentence 146 = .ok (.iaload, 1) := by decide +kernel
theorem dK5_sentence_147 : decode cK5_sentence 147 = .ok (.bipush 12, 2) := by decide +kernel
theorem dK5_sentence_149 : decode cK5_sentence 149 = .ok (.irem, 1) := by decide +kernel
theorem dK5_sentence_150 : decode cK5_sentence 150 = .ok (.invokevirtual 169, 3) := by decide +kernel
theorem dK5_sentence_153 : decode cK5_sentence 153 = .ok (.iinc 2 1, 3) := by decide +kernel
theorem dK5_sentence_156 : decode cK5_sentence 156 = .ok (.goto (-138), 3) := by decide +kernel
theorem dK5_sentence_159 : decode cK5_sentence 159 = .ok (.aload_n 0, 1) := by decide +kernel
theorem dK5_sentence_160 : decode cK5_sentence 160 = .ok (.bipush 46, 2) := by decide +kernel
theorem dK5_sentence_162 : decode cK5_sentence 162 = .ok (.invokevirtual 166, 3) := by decide +kernel
theorem dK5_sentence_165 : decode cK5_sentence 165 = .ok (.aload_n 0, 1) := by decide +kernel
theorem dK5_sentence_166 : decode cK5_sentence 166 = .ok (.getfield 163, 3) := by decide +kernel
theorem dK5_sentence_169 : decode cK5_sentence 169 = .ok (.ireturn, 1) := by decide +kernel
theorem dK5_tell_0 : decode cK5_tell 0 = .ok (.aload_n 0, 1) := by decide +kernel
theorem dK5_tell_1 : decode cK5_tell 1 = .ok (.getfield 54, 3) := by decide +kernel
theorem dK5_tell_4 : decode cK5_tell 4 = .ok (.aload_n 0, 1) := by decide +kernel
theorem dK5_tell_5 : decode cK5_tell 5 = .ok (.getfield 163, 3) := by decide +kernel
theorem dK5_tell_8 : decode cK5_tell 8 = .ok (.iload_n 1, 1) := by decide +kernel
theorem dK5_tell_9 : decode cK5_tell 9 = .ok (.iastore, 1) := by decide +kernel
theorem dK5_tell_10 : decode cK5_tell 10 = .ok (.aload_n 0, 1) := by decide +kernel
theorem dK5_tell_11 : decode cK5_tell 11 = .ok (.dup, 1) := by decide +kernel
theorem dK5_tell_12 : decode cK5_tell 12 = .ok (.getfield 163, 3) := by decide +kernel
theorem dK5_tell_15 : decode cK5_tell 15 = .ok (.iconst 1, 1) := by decide +kernel
theorem dK5_tell_16 : decode cK5_tell 16 = .ok (.iadd, 1) := by decide +kernel
theorem dK5_tell_17 : decode cK5_tell 17 = .ok (.putfield 163, 3) := by decide +kernel
theorem dK5_tell_20 : decode cK5_tell 20 = .ok (.return_, 1) := by decide +kernel
theorem dK5_tellNumber_0 : decode cK5_tellNumber 0 = .ok (.aload_n 0, 1) := by decide +kernel
theorem dK5_tellNumber_1 : decode cK5_tellNumber 1 = .ok (.bipush 32, 2) := by decide +kernel
theorem dK5_tellNumber_3 : decode cK5_tellNumber 3 = .ok (.invokevirtual 166, 3) := by decide +kernel
theorem dK5_tellNumber_6 : decode cK5_tellNumber 6 = .ok (.iload_n 1, 1) := by decide +kernel
theorem dK5_tellNumber_7 : decode cK5_tellNumber 7 = .ok (.bipush 9, 2) := by decide +kernel
theorem dK5_tellNumber_9 : decode cK5_tellNumber 9 = .ok (.if_icmp .le 14, 3) := by decide +kernel
theorem dK5_tellNumber_12 : decode cK5_tellNumber 12 = .ok (.aload_n 0, 1) := by decide +kernel
theorem dK5_tellNumber_13 : decode cK5_tellNumber 13 = .ok (.bipush 48, 2) := by decide +kernel
theorem dK5_tellNumber_15 : decode cK5_tellNumber 15 = .ok (.iload_n 1, 1) := by decide +kernel
theorem dK5_tellNumber_16 : decode cK5_tellNumber 16 = .ok (.bipush 10, 2) := by decide +kernel
theorem dK5_tellNumber_18 : decode cK5_tellNumber 18 = .ok (.idiv, 1) := by decide +kernel
theorem dK5_tellNumber_19 : decode cK5_tellNumber 19 = .ok (.iadd, 1) := by decide +kernel
theorem dK5_tellNumber_20 : decode cK5_tellNumber 20 = .ok (.invokevirtual 166, 3) := by decide +kernel
theorem dK5_tellNumber_23 : decode cK5_tellNumber 23 = .ok (.aload_n 0, 1) := by decide +kernel
theorem dK5_tellNumber_24 : decode cK5_tellNumber 24 = .ok (.bipush 48, 2) := by decide +kernel
theorem dK5_tellNumber_26 : decode cK5_tellNumber 26 = .ok (.iload_n 1, 1) := by decide +kernel
theorem dK5_tellNumber_27 : decode cK5_tellNumber 27 = .ok (.bipush 10, 2) := by decide +kernel
theorem dK5_tellNumber_29 : decode cK5_tellNumber 29 = .ok (.irem, 1) := by decide +kernel
theorem dK5_tellNumber_30 : decode cK5_tellNumber 30 = .ok (.iadd, 1) := by decide +kernel
theorem dK5_tellNumber_31 : decode cK5_tellNumber 31 = .ok (.invokevirtual 166, 3) := by decide +kernel
theorem dK5_tellNumber_34 : decode cK5_tellNumber 34 = .ok (.return_, 1) := by decide +kernel
theorem dK5_letter_0 : decode cK5_letter 0 = .ok (.iload_n 1, 1) := by decide +kernel
theorem dK5_letter_1 : decode cK5_letter 1 = .ok (.iconst 0, 1) := by decide +kernel
theorem dK5_letter_2 : decode cK5_letter 2 = .ok (.aload_n 0, 1) := by decide +kernel
theorem dK5_letter_3 : decode cK5_letter 3 = .ok (.getfield 163, 3) := by decide +kernel
theorem dK5_letter_6 : decode cK5_letter 6 = .ok (.iconst 1, 1) := by decide +kernel
theorem dK5_letter_7 : decode cK5_letter 7 = .ok (.isub, 1) := by decide +kernel
theorem dK5_letter_8 : decode cK5_letter 8 = .ok (.invokestatic 61, 3) := by decide +kernel
theorem dK5_letter_11 : decode cK5_letter 11 = .ok (.ifCond .eq 12, 3) := by decide +kernel
theorem dK5_letter_14 : decode cK5_letter 14 = .ok (.aload_n 0, 1) := by decide +kernel
theorem dK5_letter_15 : decode cK5_letter 15 = .ok (.getfield 54, 3) := by decide +kernel
theorem dK5_letter_18 : decode cK5_letter 18 = .ok (.iload_n 1, 1) := by decide +kernel
theorem dK5_letter_19 : decode cK5_letter 19 = .ok (.iaload, 1) := by decide +kernel
theorem dK5_letter_20 : decode cK5_letter 20 = .ok (.goto 5, 3) := by decide +kernel
theorem dK5_letter_23 : decode cK5_letter 23 = .ok (.bipush (-2), 2) := by decide +kernel
theorem dK5_letter_25 : decode cK5_letter 25 = .ok (.ireturn, 1) := by decide +kernel
