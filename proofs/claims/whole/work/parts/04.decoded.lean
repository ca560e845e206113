theorem dK5_rule_75 : decode cK5_rule 75 = .ok (.ireturn, 1) := by decide +kernel
theorem dK5_rule_76 : decode cK5_rule 76 = .ok (.aload_n 0, 1) := by decide +kernel
theorem dK5_rule_77 : decode cK5_rule 77 = .ok (.getfield 16, 3) := by decide +kernel
theorem dK5_rule_80 : decode cK5_rule 80 = .ok (.aload_n 0, 1) := by decide +kernel
theorem dK5_rule_81 : decode cK5_rule 81 = .ok (.getfield 72, 3) := by decide +kernel
theorem dK5_rule_84 : decode cK5_rule 84 = .ok (.iload_n 1, 1) := by decide +kernel
theorem dK5_rule_85 : decode cK5_rule 85 = .ok (.iastore, 1) := by decide +kernel
theorem dK5_rule_86 : decode cK5_rule 86 = .ok (.aload_n 0, 1) := by decide +kernel
theorem dK5_rule_87 : decode cK5_rule 87 = .ok (.getfield 20, 3) := by decide +kernel
theorem dK5_rule_90 : decode cK5_rule 90 = .ok (.aload_n 0, 1) := by decide +kernel
theorem dK5_rule_91 : decode cK5_rule 91 = .ok (.getfield 72, 3) := by decide +kernel
theorem dK5_rule_94 : decode cK5_rule 94 = .ok (.iload_n 2, 1) := by decide +kernel
theorem dK5_rule_95 : decode cK5_rule 95 = .ok (.iastore, 1) := by decide +kernel
theorem dK5_rule_96 : decode cK5_rule 96 = .ok (.aload_n 0, 1) := by decide +kernel
theorem dK5_rule_97 : decode cK5_rule 97 = .ok (.getfield 23, 3) := by decide +kernel
theorem dK5_rule_100 : decode cK5_rule 100 = .ok (.aload_n 0, 1) := by decide +kernel
theorem dK5_rule_101 : decode cK5_rule 101 = .ok (.getfield 72, 3) := by decide +kernel
theorem dK5_rule_104 : decode cK5_rule 104 = .ok (.iload_n 3, 1) := by decide +kernel
theorem dK5_rule_105 : decode cK5_rule 105 = .ok (.iastore, 1) := by decide +kernel
theorem dK5_rule_106 : decode cK5_rule 106 = .ok (.aload_n 0, 1) := by decide +kernel
theorem dK5_rule_107 : decode cK5_rule 107 = .ok (.getfield 26, 3) := by decide +kernel
theorem dK5_rule_110 : decode cK5_rule 110 = .ok (.aload_n 0, 1) := by decide +kernel
theorem dK5_rule_111 : decode cK5_rule 111 = .ok (.getfield 72, 3) := by decide +kernel
theorem dK5_rule_114 : decode cK5_rule 114 = .ok (.iload 4, 2) := by decide +kernel
theorem dK5_rule_116 : decode cK5_rule 116 = .ok (.iastore, 1) := by decide +kernel
theorem dK5_rule_117 : decode cK5_rule 117 = .ok (.aload_n 0, 1) := by decide +kernel
theorem dK5_rule_118 : decode cK5_rule 118 = .ok (.dup, 1) := by decide +kernel
theorem dK5_rule_119 : decode cK5_rule 119 = .ok (.getfield 72, 3) := by decide +kernel
theorem dK5_rule_122 : decode cK5_rule 122 = .ok (.iconst 1, 1) := by decide +kernel
theorem dK5_rule_123 : decode cK5_rule 123 = .ok (.iadd, 1) := by decide +kernel
theorem dK5_rule_124 : decode cK5_rule 124 = .ok (.putfield 72, 3) := by decide +kernel
theorem dK5_rule_127 : decode cK5_rule 127 = .ok (.aload_n 0, 1) := by decide +kernel
theorem dK5_rule_128 : decode cK5_rule 128 = .ok (.getfield 72, 3) := by decide +kernel
theorem dK5_rule_131 : decode cK5_rule 131 = .ok (.iconst 1, 1) := by decide +kernel
theorem dK5_rule_132 : decode cK5_rule 132 = .ok (.isub, 1) := by decide +kernel
theorem dK5_rule_133 : decode cK5_rule 133 = .ok (.ireturn, 1) := by decide +kernel
theorem dK5_results_0 : decode cK5_results 0 = .ok (.aload_n 0, 1) := by decide +kernel
theorem dK5_results_1 : decode cK5_results 1 = .ok (.iconst 0, 1) := by decide +kernel
theorem dK5_results_2 : decode cK5_results 2 = .ok (.invokevirtual 88, 3) := by decide +kernel
theorem dK5_results_5 : decode cK5_results 5 = .ok (.aload_n 0, 1) := by decide +kernel
theorem dK5_results_6 : decode cK5_results 6 = .ok (.invokevirtual 92, 3) := by decide +kernel
theorem dK5_results_9 : decode cK5_results 9 = .ok (.ireturn, 1) := by decide +kernel
theorem dK5_begin_0 : decode cK5_begin 0 = .ok (.iconst 0, 1) := by decide +kernel
theorem dK5_begin_1 : decode cK5_begin 1 = .ok (.istore_n 2, 1) := by decide +kernel
theorem dK5_begin_2 : decode cK5_begin 2 = .ok (.iload_n 2, 1) := by decide +kernel
theorem dK5_begin_3 : decode cK5_begin 3 = .ok (.sipush 864, 3) := by decide +kernel
theorem dK5_begin_6 : decode cK5_begin 6 = .ok (.if_icmp .ge 21, 3) := by decide +kernel
theorem dK5_begin_9 : decode cK5_begin 9 = .ok (.aload_n 0, 1) := by decide +kernel
theorem dK5_begin_10 : decode cK5_begin 10 = .ok (.getfield 13, 3) := by decide +kernel
theorem dK5_begin_13 : decode cK5_begin 13 = .ok (.iload_n 2, 1) := by decide +kernel
theorem dK5_begin_14 : decode cK5_begin 14 = .ok (.aload_n 0, 1) := by decide +kernel
theorem dK5_begin_15 : decode cK5_begin 15 = .ok (.getfield 7, 3) := by decide +kernel
theorem dK5_begin_18 : decode cK5_begin 18 = .ok (.iload_n 2, 1) := by decide +kernel
theorem dK5_begin_19 : decode cK5_begin 19 = .ok (.baload, 1) := by decide +kernel
theorem dK5_begin_20 : decode cK5_begin 20 = .ok (.bastore, 1) := by decide +kernel
theorem dK5_begin_21 : decode cK5_begin 21 = .ok (.iinc 2 1, 3) := by decide +kernel
theorem dK5_begin_24 : decode cK5_begin 24 = .ok (.goto (-22), 3) := by decide +kernel
theorem dK5_begin_27 : decode cK5_begin 27 = .ok (.iconst 0, 1) := by decide +kernel
theorem dK5_begin_28 : decode cK5_begin 28 = .ok (.istore_n 2, 1) := by decide +kernel
theorem dK5_begin_29 : decode cK5_begin 29 = .ok (.iload_n 2, 1) := by decide +kernel
theorem dK5_begin_30 : decode cK5_begin 30 = .ok (.aload_n 0, 1) := by decide +kernel
theorem dK5_begin_31 : decode cK5_begin 31 = .ok (.getfield 75, 3) := by decide +kernel
theorem dK5_begin_34 : decode cK5_begin 34 = .ok (.if_icmp .ge 35, 3) := by decide +kernel
theorem dK5_begin_37 : decode cK5_begin 37 = .ok (.iload_n 1, 1) := by decide +kernel
theorem dK5_begin_38 : decode cK5_begin 38 = .ok (.iload_n 2, 1) := by decide +kernel
theorem dK5_begin_39 : decode cK5_begin 39 = .ok (.ishr, 1) := by decide +kernel
theorem dK5_begin_40 : decode cK5_begin 40 = .ok (.iconst 1, 1) := by decide +kernel
theorem dK5_begin_41 : decode cK5_begin 41 = .ok (.iand, 1) := by decide +kernel
theorem dK5_begin_42 : decode cK5_begin 42 = .ok (.iconst 1, 1) := by decide +kernel
theorem dK5_begin_43 : decode cK5_begin 43 = .ok (.if_icmp .ne 20, 3) := by decide +kernel
theorem dK5_begin_46 : decode cK5_begin 46 = .ok (.aload_n 0, 1) := by decide +kernel
theorem dK5_begin_47 : decode cK5_begin 47 = .ok (.getfield 13, 3) := by decide +kernel
theorem dK5_begin_50 : decode cK5_begin 50 = .ok (.aload_n 0, 1) := by decide +kernel
theorem dK5_begin_51 : decode cK5_begin 51 = .ok (.getfield 32, 3) := by decide +kernel
theorem dK5_begin_54 : decode cK5_begin 54 = .ok (.iload_n 2, 1) := by decide +kernel
theorem dK5_begin_55 : decode cK5_begin 55 = .ok (.iaload, 1) := by decide +kernel
theorem dK5_begin_56 : decode cK5_begin 56 = .ok (.aload_n 0, 1) := by decide +kernel
theorem dK5_begin_57 : decode cK5_begin 57 = .ok (.getfield 29, 3) := by decide +kernel
theorem dK5_begin_60 : decode cK5_begin 60 = .ok (.iload_n 2, 1) := by decide +kernel
theorem dK5_begin_61 : decode cK5_begin 61 = .ok (.baload, 1) := by decide +kernel
theorem dK5_begin_62 : decode cK5_begin 62 = .ok (.bastore, 1) := by decide +kernel
theorem dK5_begin_63 : decode cK5_begin 63 = .ok (.iinc 2 1, 3) := by decide +kernel
theorem dK5_begin_66 : decode cK5_begin 66 = .ok (.goto (-37), 3) := by decide +kernel
theorem dK5_begin_69 : decode cK5_begin 69 = .ok (.return_, 1) := by decide +kernel
theorem dK5_resultsNow_0 : decode cK5_resultsNow 0 = .ok (.iconst 0, 1) := by decide +kernel
theorem dK5_resultsNow_1 : decode cK5_resultsNow 1 = .ok (.istore_n 1, 1) := by decide +kernel
theorem dK5_resultsNow_2 : decode cK5_resultsNow 2 = .ok (.iconst 0, 1) := by decide +kernel
theorem dK5_resultsNow_3 : decode cK5_resultsNow 3 = .ok (.istore_n 2, 1) := by decide +kernel
theorem dK5_resultsNow_4 : decode cK5_resultsNow 4 = .ok (.iload_n 2, 1) := by decide +kernel
theorem dK5_resultsNow_5 : decode cK5_resultsNow 5 = .ok (.aload_n 0, 1) := by decide +kernel
theorem dK5_resultsNow_6 : decode cK5_resultsNow 6 = .ok (.getfield 72, 3) := by decide +kernel
theorem dK5_resultsNow_9 : decode cK5_resultsNow 9 = .ok (.if_icmp .ge 40, 3) := by decide +kernel
theorem dK5_resultsNow_12 : decode cK5_resultsNow 12 = .ok (.iconst 0, 1) := by decide +kernel
theorem dK5_resultsNow_13 : decode cK5_resultsNow 13 = .ok (.istore_n 3, 1) := by decide +kernel
theorem dK5_resultsNow_14 : decode cK5_resultsNow 14 = .ok (.iload_n 3, 1) := by decide +kernel
theorem dK5_resultsNow_15 : decode cK5_resultsNow 15 = .ok (.bipush 12, 2) := by decide +kernel
theorem dK5_resultsNow_17 : decode cK5_resultsNow 17 = .ok (.if_icmp .ge 26, 3) := by decide +kernel
theorem dK5_resultsNow_20 : decode cK5_resultsNow 20 = .ok (.iload_n 1, 1) := by decide +kernel
theorem dK5_resultsNow_21 : decode cK5_resultsNow 21 = .ok (.aload_n 0, 1) := by decide +kernel
theorem dK5_resultsNow_22 : decode cK5_resultsNow 22 = .ok (.iload_n 2, 1) := by decide +kernel
theorem dK5_resultsNow_23 : decode cK5_resultsNow 23 = .ok (.iload_n 3, 1) := by decide +kernel
theorem dK5_resultsNow_24 : decode cK5_resultsNow 24 = .ok (.invokevirtual 85, 3) := by decide +kernel
theorem dK5_resultsNow_27 : decode cK5_resultsNow 27 = .ok (.ifCond .eq 7, 3) := by decide +kernel
theorem dK5_resultsNow_30 : decode cK5_resultsNow 30 = .ok (.iconst 1, 1) := by decide +kernel
theorem dK5_resultsNow_31 : decode cK5_resultsNow 31 = .ok (.goto 4, 3) := by decide +kernel
theorem dK5_resultsNow_34 : decode cK5_resultsNow 34 = .ok (.iconst 0, 1) := by decide +kernel
theorem dK5_resultsNow_35 : decode cK5_resultsNow 35 = .ok (.iadd, 1) := by decide +kernel
theorem dK5_resultsNow_36 : decode cK5_resultsNow 36 = .ok (.istore_n 1, 1) := by decide +kernel
theorem dK5_resultsNow_37 : decode cK5_resultsNow 37 = .ok (.iinc 3 1, 3) := by decide +kernel
theorem dK5_resultsNow_40 : decode cK5_resultsNow 40 = .ok (.goto (-26), 3) := by decide +kernel
theorem dK5_resultsNow_43 : decode cK5_resultsNow 43 = .ok (.iinc 2 1, 3) := by decide +kernel
theorem dK5_resultsNow_46 : decode cK5_resultsNow 46 = .ok (.goto (-42), 3) := by decide +kernel
theorem dK5_resultsNow_49 : decode cK5_resultsNow 49 = .ok (.iload_n 1, 1) := by decide +kernel
theorem dK5_resultsNow_50 : decode cK5_resultsNow 50 = .ok (.ireturn, 1) := by decide +kernel
theorem dK5_isResult_0 : decode cK5_isResult 0 = .ok (.aload_n 0, 1) := by decide +kernel
theorem dK5_isResult_1 : decode cK5_isResult 1 = .ok (.iload_n 2, 1) := by decide +kernel
theorem dK5_isResult_2 : decode cK5_isResult 2 = .ok (.aload_n 0, 1) := by decide +kernel
theorem dK5_isResult_3 : decode cK5_isResult 3 = .ok (.getfield 20, 3) := by decide +kernel
theorem dK5_isResult_6 : decode cK5_isResult 6 = .ok (.iload_n 1, 1) := by decide +kernel
theorem dK5_isResult_7 : decode cK5_isResult 7 = .ok (.iaload, 1) := by decide +kernel
theorem dK5_isResult_8 : decode cK5_isResult 8 = .ok (.invokevirtual 78, 3) := by decide +kernel
theorem dK5_isResult_11 : decode cK5_isResult 11 = .ok (.ifCond .eq 16, 3) := by decide +kernel
theorem dK5_isResult_14 : decode cK5_isResult 14 = .ok (.aload_n 0, 1) := by decide +kernel
theorem dK5_isResult_15 : decode cK5_isResult 15 = .ok (.iload_n 1, 1) := by decide +kernel
theorem dK5_isResult_16 : decode cK5_isResult 16 = .ok (.iload_n 2, 1) := by decide +kernel
theorem dK5_isResult_17 : decode cK5_isResult 17 = .ok (.invokevirtual 82, 3) := by decide +kernel
theorem dK5_isResult_20 : decode cK5_isResult 20 = .ok (.ifCond .ne 7, 3) := by decide +kernel
theorem dK5_isResult_23 : decode cK5_isResult 23 = .ok (.iconst 1, 1) := by decide +kernel
theorem dK5_isResult_24 : decode cK5_isResult 24 = .ok (.goto 4, 3) := by decide +kernel
theorem dK5_isResult_27 : decode cK5_isResult 27 = .ok (.iconst 0, 1) := by decide +kernel
theorem dK5_isResult_28 : decode cK5_isResult 28 = .ok (.ireturn, 1) := by decide +kernel
theorem dK5_isOfNow_0 : decode cK5_isOfNow 0 = .ok (.iconst 0, 1) := by decide +kernel
theorem dK5_isOfNow_1 : decode cK5_isOfNow 1 = .ok (.istore_n 3, 1) := by decide +kernel
theorem dK5_isOfNow_2 : decode cK5_isOfNow 2 = .ok (.iload_n 3, 1) := by decide +kernel
theorem dK5_isOfNow_3 : decode cK5_isOfNow 3 = .ok (.bipush 12, 2) := by decide +kernel
theorem dK5_isOfNow_5 : decode cK5_isOfNow 5 = .ok (.if_icmp .ge 26, 3) := by decide +kernel
theorem dK5_isOfNow_8 : decode cK5_isOfNow 8 = .ok (.aload_n 0, 1) := by decide +kernel
theorem dK5_isOfNow_9 : decode cK5_isOfNow 9 = .ok (.getfield 48, 3) := by decide +kernel
theorem dK5_isOfNow_12 : decode cK5_isOfNow 12 = .ok (.iload_n 3, 1) := by decide +kernel
theorem dK5_isOfNow_13 : decode cK5_isOfNow 13 = .ok (.aload_n 0, 1) := by decide +kernel
theorem dK5_isOfNow_14 : decode cK5_isOfNow 14 = .ok (.getfield 13, 3) := by decide +kernel
theorem dK5_isOfNow_17 : decode cK5_isOfNow 17 = .ok (.iload_n 1, 1) := by decide +kernel
theorem dK5_isOfNow_18 : decode cK5_isOfNow 18 = .ok (.iconst 0, 1) := by decide +kernel
theorem dK5_isOfNow_19 : decode cK5_isOfNow 19 = .ok (.iload_n 3, 1) := by decide +kernel
theorem dK5_isOfNow_20 : decode cK5_isOfNow 20 = .ok (.invokestatic 68, 3) := by decide +kernel
theorem dK5_isOfNow_23 : decode cK5_isOfNow 23 = .ok (.baload, 1) := by decide +kernel
theorem dK5_isOfNow_24 : decode cK5_isOfNow 24 = .ok (.bastore, 1) := by decide +kernel
theorem dK5_isOfNow_25 : decode cK5_isOfNow 25 = .ok (.iinc 3 1, 3) := by decide +kernel
theorem dK5_isOfNow_28 : decode cK5_isOfNow 28 = .ok (.goto (-26), 3) := by decide +kernel
theorem dK5_isOfNow_31 : decode cK5_isOfNow 31 = .ok (.iconst 0, 1) := by decide +kernel
theorem dK5_isOfNow_32 : decode cK5_isOfNow 32 = .ok (.istore_n 3, 1) := by decide +kernel
theorem dK5_isOfNow_33 : decode cK5_isOfNow 33 = .ok (.iload_n 3, 1) := by decide +kernel
theorem dK5_isOfNow_34 : decode cK5_isOfNow 34 = .ok (.bipush 12, 2) := by decide +kernel
theorem dK5_isOfNow_36 : decode cK5_isOfNow 36 = .ok (.if_icmp .ge 89, 3) := by decide +kernel
theorem dK5_isOfNow_39 : decode cK5_isOfNow 39 = .ok (.iconst 0, 1) := by decide +kernel
theorem dK5_isOfNow_40 : decode cK5_isOfNow 40 = .ok (.istore 4, 2) := by decide +kernel
theorem dK5_isOfNow_42 : decode cK5_isOfNow 42 = .ok (.iload 4, 2) := by decide +kernel
theorem dK5_isOfNow_44 : decode cK5_isOfNow 44 = .ok (.bipush 12, 2) := by decide +kernel
theorem dK5_isOfNow_46 : decode cK5_isOfNow 46 = .ok (.if_icmp .ge 73, 3) := by decide +kernel
theorem dK5_isOfNow_49 : decode cK5_isOfNow 49 = .ok (.iconst 0, 1) := by decide +kernel
theorem dK5_isOfNow_50 : decode cK5_isOfNow 50 = .ok (.istore 5, 2) := by decide +kernel
theorem dK5_isOfNow_52 : decode cK5_isOfNow 52 = .ok (.iload 5, 2) := by decide +kernel
theorem dK5_isOfNow_54 : decode cK5_isOfNow 54 = .ok (.bipush 12, 2) := by decide +kernel
theorem dK5_isOfNow_56 : decode cK5_isOfNow 56 = .ok (.if_icmp .ge 57, 3) := by decide +kernel
theorem dK5_isOfNow_59 : decode cK5_isOfNow 59 = .ok (.aload_n 0, 1) := by decide +kernel
theorem dK5_isOfNow_60 : decode cK5_isOfNow 60 = .ok (.getfield 48, 3) := by decide +kernel
theorem dK5_isOfNow_63 : decode cK5_isOfNow 63 = .ok (.iload 4, 2) := by decide +kernel
theorem dK5_isOfNow_65 : decode cK5_isOfNow 65 = .ok (.baload, 1) := by decide +kernel
theorem dK5_isOfNow_66 : decode cK5_isOfNow 66 = .ok (.ifCond .eq 47, 3) := by decide +kernel
theorem dK5_isOfNow_69 : decode cK5_isOfNow 69 = .ok (.aload_n 0, 1) := by decide +kernel
theorem dK5_isOfNow_70 : decode cK5_isOfNow 70 = .ok (.getfield 48, 3) := by decide +kernel
theorem dK5_isOfNow_73 : decode cK5_isOfNow 73 = .ok (.iload 5, 2) := by decide +kernel
theorem dK5_isOfNow_75 : decode cK5_isOfNow 75 = .ok (.aload_n 0, 1) := by decide +kernel
theorem dK5_isOfNow_76 : decode cK5_isOfNow 76 = .ok (.getfield 48, 3) := by decide +kernel
theorem dK5_isOfNow_79 : decode cK5_isOfNow 79 = .ok (.iload 5, 2) := by decide +kernel
theorem dK5_isOfNow_81 : decode cK5_isOfNow 81 = .ok (.baload, 1) := by decide +kernel
theorem dK5_isOfNow_82 : decode cK5_isOfNow 82 = .ok (.ifCond .ne 19, 3) := by decide +kernel
theorem dK5_isOfNow_85 : decode cK5_isOfNow 85 = .ok (.aload_n 0, 1) := by decide +kernel
theorem dK5_isOfNow_86 : decode cK5_isOfNow 86 = .ok (.getfield 13, 3) := by decide +kernel
theorem dK5_isOfNow_89 : decode cK5_isOfNow 89 = .ok (.iload 4, 2) := by decide +kernel
theorem dK5_isOfNow_91 : decode cK5_isOfNow 91 = .ok (.iconst 1, 1) := by decide +kernel
theorem dK5_isOfNow_92 : decode cK5_isOfNow 92 = .ok (.iload 5, 2) := by decide +kernel
theorem dK5_isOfNow_94 : decode cK5_isOfNow 94 = .ok (.invokestatic 68, 3) := by decide +kernel
theorem dK5_isOfNow_97 : decode cK5_isOfNow 97 = .ok (.baload, 1) := by decide +kernel
theorem dK5_isOfNow_98 : decode cK5_isOfNow 98 = .ok (.ifCond .eq 7, 3) := by decide +kernel
theorem dK5_isOfNow_101 : decode cK5_isOfNow 101 = .ok (.iconst 1, 1) := by decide +kernel
theorem dK5_isOfNow_102 : decode cK5_isOfNow 102 = .ok (.goto 4, 3) := by decide +kernel
theorem dK5_isOfNow_105 : decode cK5_isOfNow 105 = .ok (.iconst 0, 1) := by decide +kernel
theorem dK5_isOfNow_106 : decode cK5_isOfNow 106 = .ok (.bastore, 1) := by decide +kernel
theorem dK5_isOfNow_107 : decode cK5_isOfNow 107 = .ok (.iinc 5 1, 3) := by decide +kernel
theorem dK5_isOfNow_110 : decode cK5_isOfNow 110 = .ok (.goto (-58), 3) := by decide +kernel
theorem dK5_isOfNow_113 : decode cK5_isOfNow 113 = .ok (.iinc 4 1, 3) := by decide +kernel
theorem dK5_isOfNow_116 : decode cK5_isOfNow 116 = .ok (.goto (-74), 3) := by decide +kernel
theorem dK5_isOfNow_119 : decode cK5_isOfNow 119 = .ok (.iinc 3 1, 3) := by decide +kernel
theorem dK5_isOfNow_122 : decode cK5_isOfNow 122 = .ok (.goto (-89), 3) := by decide +kernel
theorem dK5_isOfNow_125 : decode cK5_isOfNow 125 = .ok (.aload_n 0, 1) := by decide +kernel
theorem dK5_isOfNow_126 : decode cK5_isOfNow 126 = .ok (.getfield 48, 3) := by decide +kernel
theorem dK5_isOfNow_129 : decode cK5_isOfNow 129 = .ok (.iload_n 2, 1) := by decide +kernel
theorem dK5_isOfNow_130 : decode cK5_isOfNow 130 = .ok (.baload, 1) := by decide +kernel
theorem dK5_isOfNow_131 : decode cK5_isOfNow 131 = .ok (.ireturn, 1) := by decide +kernel
theorem dK5_holds_0 : decode cK5_holds 0 = .ok (.aload_n 0, 1) := by decide +kernel
theorem dK5_holds_1 : decode cK5_holds 1 = .ok (.getfield 23, 3) := by decide +kernel
theorem dK5_holds_4 : decode cK5_holds 4 = .ok (.iload_n 1, 1) := by decide +kernel
theorem dK5_holds_5 : decode cK5_holds 5 = .ok (.iaload, 1) := by decide +kernel
theorem dK5_holds_6 : decode cK5_holds 6 = .ok (.istore_n 3, 1) := by decide +kernel
theorem dK5_holds_7 : decode cK5_holds 7 = .ok (.aload_n 0, 1) := by decide +kernel
theorem dK5_holds_8 : decode cK5_holds 8 = .ok (.getfield 26, 3) := by decide +kernel
theorem dK5_holds_11 : decode cK5_holds 11 = .ok (.iload_n 1, 1) := by decide +kernel
theorem dK5_holds_12 : decode cK5_holds 12 = .ok (.iaload, 1) := by decide +kernel
theorem dK5_holds_13 : decode cK5_holds 13 = .ok (.istore 4, 2) := by decide +kernel
theorem dK5_holds_15 : decode cK5_holds 15 = .ok (.iconst 0, 1) := by decide +kernel
theorem dK5_holds_16 : decode cK5_holds 16 = .ok (.istore 5, 2) := by decide +kernel
theorem dK5_holds_18 : decode cK5_holds 18 = .ok (.iconst 1, 1) := by decide +kernel
theorem dK5_holds_19 : decode cK5_holds 19 = .ok (.istore 6, 2) := by decide +kernel
theorem dK5_holds_21 : decode cK5_holds 21 = .ok (.iconst 0, 1) := by decide +kernel
theorem dK5_holds_22 : decode cK5_holds 22 = .ok (.istore 7, 2) := by decide +kernel
theorem dK5_holds_24 : decode cK5_holds 24 = .ok (.iload 7, 2) := by decide +kernel
theorem dK5_holds_26 : decode cK5_holds 26 = .ok (.bipush 12, 2) := by decide +kernel
theorem dK5_holds_28 : decode cK5_holds 28 = .ok (.if_icmp .ge 202, 3) := by decide +kernel
theorem dK5_holds_31 : decode cK5_holds 31 = .ok (.aload_n 0, 1) := by decide +kernel
theorem dK5_holds_32 : decode cK5_holds 32 = .ok (.getfield 13, 3) := by decide +kernel
theorem dK5_holds_35 : decode cK5_holds 35 = .ok (.iload_n 2, 1) := by decide +kernel
theorem dK5_holds_36 : decode cK5_holds 36 = .ok (.iload_n 3, 1) := by decide +kernel
theorem dK5_holds_37 : decode cK5_holds 37 = .ok (.iload 7, 2) := by decide +kernel
theorem dK5_holds_39 : decode cK5_holds 39 = .ok (.invokestatic 68, 3) := by decide +kernel
theorem dK5_holds_42 : decode cK5_holds 42 = .ok (.baload, 1) := by decide +kernel
theorem dK5_holds_43 : decode cK5_holds 43 = .ok (.istore 8, 2) := by decide +kernel
theorem dK5_holds_45 : decode cK5_holds 45 = .ok (.iload 5, 2) := by decide +kernel
theorem dK5_holds_47 : decode cK5_holds 47 = .ok (.iload 8, 2) := by decide +kernel
theorem dK5_holds_49 : decode cK5_holds 49 = .ok (.ifCond .eq 7, 3) := by decide +kernel
theorem dK5_holds_52 : decode cK5_holds 52 = .ok (.iconst 1, 1) := by decide +kernel
theorem dK5_holds_53 : decode cK5_holds 53 = .ok (.goto 4, 3) := by decide +kernel
theorem dK5_holds_56 : decode cK5_holds 56 = .ok (.iconst 0, 1) := by decide +kernel
theorem dK5_holds_57 : decode cK5_holds 57 = .ok (.iadd, 1) := by decide +kernel
theorem dK5_holds_58 : decode cK5_holds 58 = .ok (.istore 5, 2) := by decide +kernel
theorem dK5_holds_60 : decode cK5_holds 60 = .ok (.aload_n 0, 1) := by decide +kernel
theorem dK5_holds_61 : decode cK5_holds 61 = .ok (.getfield 16, 3) := by decide +kernel
theorem dK5_holds_64 : decode cK5_holds 64 = .ok (.iload_n 1, 1) := by decide +kernel
theorem dK5_holds_65 : decode cK5_holds 65 = .ok (.iaload, 1) := by decide +kernel
theorem dK5_holds_66 : decode cK5_holds 66 = .ok (.iconst 2, 1) := by decide +kernel
theorem dK5_holds_67 : decode cK5_holds 67 = .ok (.if_icmp .ne 34, 3) := by decide +kernel
theorem dK5_holds_70 : decode cK5_holds 70 = .ok (.iload 6, 2) := by decide +kernel
theorem dK5_holds_72 : decode cK5_holds 72 = .ok (.ifCond .eq 23, 3) := by decide +kernel
theorem dK5_holds_75 : decode cK5_holds 75 = .ok (.iload 8, 2) := by decide +kernel
theorem dK5_holds_77 : decode cK5_holds 77 = .ok (.ifCond .eq 14, 3) := by decide +kernel
theorem dK5_holds_80 : decode cK5_holds 80 = .ok (.aload_n 0, 1) := by decide +kernel
theorem dK5_holds_81 : decode cK5_holds 81 = .ok (.iload 7, 2) := by decide +kernel
theorem dK5_holds_83 : decode cK5_holds 83 = .ok (.iload 4, 2) := by decide +kernel
theorem dK5_holds_85 : decode cK5_holds 85 = .ok (.invokevirtual 78, 3) := by decide +kernel
theorem dK5_holds_88 : decode cK5_holds 88 = .ok (.ifCond .eq 7, 3) := by decide +kernel
theorem dK5_holds_91 : decode cK5_holds 91 = .ok (.iconst 1, 1) := by decide +kernel
theorem dK5_holds_92 : decode cK5_holds 92 = .ok (.goto 4, 3) := by decide +kernel
theorem dK5_holds_95 : decode cK5_holds 95 = .ok (.iconst 0, 1) := by decide +kernel
theorem dK5_holds_96 : decode cK5_holds 96 = .ok (.istore 6, 2) := by decide +kernel
theorem dK5_holds_98 : decode cK5_holds 98 = .ok (.goto 126, 3) := by decide +kernel
theorem dK5_holds_101 : decode cK5_holds 101 = .ok (.aload_n 0, 1) := by decide +kernel
theorem dK5_holds_102 : decode cK5_holds 102 = .ok (.getfield 16, 3) := by decide +kernel
theorem dK5_holds_105 : decode cK5_holds 105 = .ok (.iload_n 1, 1) := by decide +kernel
theorem dK5_holds_106 : decode cK5_holds 106 = .ok (.iaload, 1) := by decide +kernel
theorem dK5_holds_107 : decode cK5_holds 107 = .ok (.iconst 3, 1) := by decide +kernel
theorem dK5_holds_108 : decode cK5_holds 108 = .ok (.if_icmp .ne 30, 3) := by decide +kernel
theorem dK5_holds_111 : decode cK5_holds 111 = .ok (.iload 6, 2) := by decide +kernel
theorem dK5_holds_113 : decode cK5_holds 113 = .ok (.ifCond .eq 19, 3) := by decide +kernel
theorem dK5_holds_116 : decode cK5_holds 116 = .ok (.iload 8, 2) := by decide +kernel
theorem dK5_holds_118 : decode cK5_holds 118 = .ok (.ifCond .eq 10, 3) := by decide +kernel
theorem dK5_holds_121 : decode cK5_holds 121 = .ok (.iload 7, 2) := by decide +kernel
theorem dK5_holds_123 : decode cK5_holds 123 = .ok (.iload 4, 2) := by decide +kernel
theorem dK5_holds_125 : decode cK5_holds 125 = .ok (.if_icmp .eq 7, 3) := by decide +kernel
theorem dK5_holds_128 : decode cK5_holds 128 = .ok (.iconst 1, 1) := by decide +kernel
theorem dK5_holds_129 : decode cK5_holds 129 = .ok (.goto 4, 3) := by decide +kernel
theorem dK5_holds_132 : decode cK5_holds 132 = .ok (.iconst 0, 1) := by decide +kernel
theorem dK5_holds_133 : decode cK5_holds 133 = .ok (.istore 6, 2) := by decide +kernel
theorem dK5_holds_135 : decode cK5_holds 135 = .ok (.goto 89, 3) := by decide +kernel
theorem dK5_holds_138 : decode cK5_holds 138 = .ok (.aload_n 0, 1) := by decide +kernel
theorem dK5_holds_139 : decode cK5_holds 139 = .ok (.getfield 16, 3) := by decide +kernel
theorem dK5_holds_142 : decode cK5_holds 142 = .ok (.iload_n 1, 1) := by decide +kernel
theorem dK5_holds_143 : decode cK5_holds 143 = .ok (.iaload, 1) := by decide +kernel
theorem dK5_holds_144 : decode cK5_holds 144 = .ok (.iconst 4, 1) := by decide +kernel
theorem dK5_holds_145 : decode cK5_holds 145 = .ok (.if_icmp .ne 36, 3) := by decide +kernel
theorem dK5_holds_148 : decode cK5_holds 148 = .ok (.iload 6, 2) := by decide +kernel
theorem dK5_holds_150 : decode cK5_holds 150 = .ok (.ifCond .eq 25, 3) := by decide +kernel
theorem dK5_holds_153 : decode cK5_holds 153 = .ok (.iload 8, 2) := by decide +kernel
theorem dK5_holds_155 : decode cK5_holds 155 = .ok (.aload_n 0, 1) := by decide +kernel
theorem dK5_holds_156 : decode cK5_holds 156 = .ok (.getfield 13, 3) := by decide +kernel
theorem dK5_holds_159 : decode cK5_holds 159 = .ok (.iload_n 2, 1) := by decide +kernel
theorem dK5_holds_160 : decode cK5_holds 160 = .ok (.iload 4, 2) := by decide +kernel
theorem dK5_holds_162 : decode cK5_holds 162 = .ok (.iload 7, 2) := by decide +kernel
theorem dK5_holds_164 : decode cK5_holds 164 = .ok (.invokestatic 68, 3) := by decide +kernel
theorem dK5_holds_167 : decode cK5_holds 167 = .ok (.baload, 1) := by decide +kernel
theorem dK5_holds_168 : decode cK5_holds 168 = .ok (.if_icmp .ne 7, 3) := by decide +kernel
theorem dK5_holds_171 : decode cK5_holds 171 = .ok (.iconst 1, 1) := by decide +kernel
theorem dK5_holds_172 : decode cK5_holds 172 = .ok (.goto 4, 3) := by decide +kernel
theorem dK5_holds_175 : decode cK5_holds 175 = .ok (.iconst 0, 1) := by decide +kernel
theorem dK5_holds_176 : decode cK5_holds 176 = .ok (.istore 6, 2) := by decide +kernel
theorem dK5_holds_178 : decode cK5_holds 178 = .ok (.goto 46, 3) := by decide +kernel
theorem dK5_holds_181 : decode cK5_holds 181 = .ok (.aload_n 0, 1) := by decide +kernel
theorem dK5_holds_182 : decode cK5_holds 182 = .ok (.getfield 16, 3) := by decide +kernel
theorem dK5_holds_185 : decode cK5_holds 185 = .ok (.iload_n 1, 1) := by decide +kernel
theorem dK5_holds_186 : decode cK5_holds 186 = .ok (.iaload, 1) := by decide +kernel
theorem dK5_holds_187 : decode cK5_holds 187 = .ok (.iconst 5, 1) := by decide +kernel
theorem dK5_holds_188 : decode cK5_holds 188 = .ok (.if_icmp .ne 36, 3) := by decide +kernel
theorem dK5_holds_191 : decode cK5_holds 191 = .ok (.iload 6, 2) := by decide +kernel
theorem dK5_holds_193 : decode cK5_holds 193 = .ok (.ifCond .eq 28, 3) := by decide +kernel
theorem dK5_holds_196 : decode cK5_holds 196 = .ok (.iload 8, 2) := by decide +kernel
theorem dK5_holds_198 : decode cK5_holds 198 = .ok (.ifCond .eq 19, 3) := by decide +kernel
theorem dK5_holds_201 : decode cK5_holds 201 = .ok (.aload_n 0, 1) := by decide +kernel
theorem dK5_holds_202 : decode cK5_holds 202 = .ok (.getfield 13, 3) := by decide +kernel
theorem dK5_holds_205 : decode cK5_holds 205 = .ok (.iload_n 2, 1) := by decide +kernel
theorem dK5_holds_206 : decode cK5_holds 206 = .ok (.iload 4, 2) := by decide +kernel
theorem dK5_holds_208 : decode cK5_holds 208 = .ok (.iload 7, 2) := by decide +kernel
theorem dK5_holds_210 : decode cK5_holds 210 = .ok (.invokestatic 68, 3) := by decide +kernel
theorem dK5_holds_213 : decode cK5_holds 213 = .ok (.baload, 1) := by decide +kernel
theorem dK5_holds_214 : decode cK5_holds 214 = .ok (.ifCond .ne 7, 3) := by decide +kernel
theorem dK5_holds_217 : decode cK5_holds 217 = .ok (.iconst 1, 1) := by decide +kernel
theorem dK5_holds_218 : decode cK5_holds 218 = .ok (.goto 4, 3) := by decide +kernel
theorem dK5_holds_221 : decode cK5_holds 221 = .ok (.iconst 0, 1) := by decide +kernel
theorem dK5_holds_222 : decode cK5_holds 222 = .ok (.istore 6, 2) := by decide +kernel
theorem dK5_holds_224 : decode cK5_holds 224 = .ok (.iinc 7 1, 3) := by decide +kernel
theorem dK5_holds_227 : decode cK5_holds 227 = .ok (.goto (-203), 3) := by decide +kernel
theorem dK5_holds_230 : decode cK5_holds 230 = .ok (.aload_n 0, 1) := by decide +kernel
theorem dK5_holds_231 : decode cK5_holds 231 = .ok (.getfield 16, 3) := by decide +kernel
theorem dK5_holds_234 : decode cK5_holds 234 = .ok (.iload_n 1, 1) := by decide +kernel
theorem dK5_holds_235 : decode cK5_holds 235 = .ok (.iaload, 1) := by decide +kernel
theorem dK5_holds_236 : decode cK5_holds 236 = .ok (.ifCond .ne 18, 3) := by decide +kernel
theorem dK5_holds_239 : decode cK5_holds 239 = .ok (.iload 5, 2) := by decide +kernel
theorem dK5_holds_241 : decode cK5_holds 241 = .ok (.iload 4, 2) := by decide +kernel
theorem dK5_holds_243 : decode cK5_holds 243 = .ok (.if_icmp .lt 7, 3) := by decide +kernel
theorem dK5_holds_246 : decode cK5_holds 246 = .ok (.iconst 1, 1) := by decide +kernel
theorem dK5_holds_247 : decode cK5_holds 247 = .ok (.goto 34, 3) := by decide +kernel
theorem dK5_holds_250 : decode cK5_holds 250 = .ok (.iconst 0, 1) := by decide +kernel
theorem dK5_holds_251 : decode cK5_holds 251 = .ok (.goto 30, 3) := by decide +kernel
theorem dK5_holds_254 : decode cK5_holds 254 = .ok (.aload_n 0, 1) := by decide +kernel
theorem dK5_holds_255 : decode cK5_holds 255 = .ok (.getfield 16, 3) := by decide +kernel
theorem dK5_holds_258 : decode cK5_holds 258 = .ok (.iload_n 1, 1) := by decide +kernel
theorem dK5_holds_259 : decode cK5_holds 259 = .ok (.iaload, 1) := by decide +kernel
theorem dK5_holds_260 : decode cK5_holds 260 = .ok (.iconst 1, 1) := by decide +kernel
theorem dK5_holds_261 : decode cK5_holds 261 = .ok (.if_icmp .ne 18, 3) := by decide +kernel
theorem dK5_holds_264 : decode cK5_holds 264 = .ok (.iload 5, 2) := by decide +kernel
theorem dK5_holds_266 : decode cK5_holds 266 = .ok (.iload 4, 2) := by decide +kernel
theorem dK5_holds_268 : decode cK5_holds 268 = .ok (.if_icmp .gt 7, 3) := by decide +kernel
theorem dK5_holds_271 : decode cK5_holds 271 = .ok (.iconst 1, 1) := by decide +kernel
theorem dK5_holds_272 : decode cK5_holds 272 = .ok (.goto 9, 3) := by decide +kernel
theorem dK5_holds_275 : decode cK5_holds 275 = .ok (.iconst 0, 1) := by decide +kernel
theorem dK5_holds_276 : decode cK5_holds 276 = .ok (.goto 5, 3) := by decide +kernel
theorem dK5_holds_279 : decode cK5_holds 279 = .ok (.iload 6, 2) := by decide +kernel
theorem dK5_holds_281 : decode cK5_holds 281 = .ok (.ireturn, 1) := by decide +kernel
theorem dK5_result_0 : decode cK5_result 0 = .ok (.aload_n 0, 1) := by decide +kernel
theorem dK5_result_1 : decode cK5_result 1 = .ok (.iconst 0, 1) := by decide +kernel
theorem dK5_result_2 : decode cK5_result 2 = .ok (.invokevirtual 88, 3) := by decide +kernel
theorem dK5_result_5 : decode cK5_result 5 = .ok (.iload_n 1, 1) := by decide +kernel
theorem dK5_result_6 : decode cK5_result 6 = .ok (.istore_n 2, 1) := by decide +kernel
theorem dK5_result_7 : decode cK5_result 7 = .ok (.iconst 0, 1) := by decide +kernel
theorem dK5_result_8 : decode cK5_result 8 = .ok (.istore_n 3, 1) := by decide +kernel
theorem dK5_result_9 : decode cK5_result 9 = .ok (.iload_n 3, 1) := by decide +kernel
theorem dK5_result_10 : decode cK5_result 10 = .ok (.bipush 12, 2) := by decide +kernel
theorem dK5_result_12 : decode cK5_result 12 = .ok (.aload_n 0, 1) := by decide +kernel
theorem dK5_result_13 : decode cK5_result 13 = .ok (.getfield 72, 3) := by decide +kernel
theorem dK5_result_16 : decode cK5_result 16 = .ok (.imul, 1) := by decide +kernel
theorem dK5_result_17 : decode cK5_result 17 = .ok (.if_icmp .ge 51, 3) := by decide +kernel
theorem dK5_result_20 : decode cK5_result 20 = .ok (.iload_n 1, 1) := by decide +kernel
theorem dK5_result_21 : decode cK5_result 21 = .ok (.ifCond .lt 47, 3) := by decide +kernel
theorem dK5_result_24 : decode cK5_result 24 = .ok (.aload_n 0, 1) := by decide +kernel
theorem dK5_result_25 : decode cK5_result 25 = .ok (.iload_n 3, 1) := by decide +kernel
theorem dK5_result_26 : decode cK5_result 26 = .ok (.bipush 12, 2) := by decide +kernel
theorem dK5_result_28 : decode cK5_result 28 = .ok (.idiv, 1) := by decide +kernel
theorem dK5_result_29 : decode cK5_result 29 = .ok (.iload_n 3, 1) := by decide +kernel
theorem dK5_result_30 : decode cK5_result 30 = .ok (.bipush 12, 2) := by decide +kernel
theorem dK5_result_32 : decode cK5_result 32 = .ok (.irem, 1) := by decide +kernel
theorem dK5_result_33 : decode cK5_result 33 = .ok (.invokevirtual 85, 3) := by decide +kernel
theorem dK5_result_36 : decode cK5_result 36 = .ok (.istore 4, 2) := by decide +kernel
theorem dK5_result_38 : decode cK5_result 38 = .ok (.iload 4, 2) := by decide +kernel
theorem dK5_result_40 : decode cK5_result 40 = .ok (.ifCond .eq 9, 3) := by decide +kernel
theorem dK5_result_43 : decode cK5_result 43 = .ok (.iload_n 2, 1) := by decide +kernel
theorem dK5_result_44 : decode cK5_result 44 = .ok (.ifCond .ne 5, 3) := by decide +kernel
theorem dK5_result_47 : decode cK5_result 47 = .ok (.iload_n 3, 1) := by decide +kernel
theorem dK5_result_48 : decode cK5_result 48 = .ok (.ireturn, 1) := by decide +kernel
theorem dK5_result_49 : decode cK5_result 49 = .ok (.iload_n 2, 1) := by decide +kernel
theorem dK5_result_50 : decode cK5_result 50 = .ok (.iload 4, 2) := by decide +kernel
theorem dK5_result_52 : decode cK5_result 52 = .ok (.ifCond .eq 7, 3) := by decide +kernel
theorem dK5_result_55 : decode cK5_result 55 = .ok (.iconst 1, 1) := by decide +kernel
theorem dK5_result_56 : decode cK5_result 56 = .ok (.goto 4, 3) := by decide +kernel
theorem dK5_result_59 : decode cK5_result 59 = .ok (.iconst 0, 1) := by decide +kernel
theorem dK5_result_60 : decode cK5_result 60 = .ok (.isub, 1) := by decide +kernel
theorem dK5_result_61 : decode cK5_result 61 = .ok (.istore_n 2, 1) := by decide +kernel
theorem dK5_result_62 : decode cK5_result 62 = .ok (.iinc 3 1, 3) := by decide +kernel
theorem dK5_result_65 : decode cK5_result 65 = .ok (.goto (-56), 3) := by decide +kernel
theorem dK5_result_68 : decode cK5_result 68 = .ok (.bipush (-2), 2) := by decide +kernel
theorem dK5_result_70 : decode cK5_result 70 = .ok (.ireturn, 1) := by decide +kernel
theorem dK5_isOf_0 : decode cK5_isOf 0 = .ok (.iload_n 1, 1) := by decide +kernel
theorem dK5_isOf_1 : decode cK5_isOf 1 = .ok (.iconst 0, 1) := by decide +kernel
theorem dK5_isOf_2 : decode cK5_isOf 2 = .ok (.bipush 11, 2) := by decide +kernel
theorem dK5_isOf_4 : decode cK5_isOf 4 = .ok (.invokestatic 61, 3) := by decide +kernel
theorem dK5_isOf_7 : decode cK5_isOf 7 = .ok (.ifCond .eq 13, 3) := by decide +kernel
theorem dK5_isOf_10 : decode cK5_isOf 10 = .ok (.iload_n 2, 1) := by decide +kernel
theorem dK5_isOf_11 : decode cK5_isOf 11 = .ok (.iconst 0, 1) := by decide +kernel
theorem dK5_isOf_12 : decode cK5_isOf 12 = .ok (.bipush 11, 2) := by decide +kernel
theorem dK5_isOf_14 : decode cK5_isOf 14 = .ok (.invokestatic 61, 3) := by decide +kernel
theorem dK5_isOf_17 : decode cK5_isOf 17 = .ok (.ifCond .ne 5, 3) := by decide +kernel
theorem dK5_isOf_20 : decode cK5_isOf 20 = .ok (.iconst (-1), 1) := by decide +kernel
theorem dK5_isOf_21 : decode cK5_isOf 21 = .ok (.ireturn, 1) := by decide +kernel
theorem dK5_isOf_22 : decode cK5_isOf 22 = .ok (.aload_n 0, 1) := by decide +kernel
theorem dK5_isOf_23 : decode cK5_isOf 23 = .ok (.iconst 0, 1) := by decide +kernel
theorem dK5_isOf_24 : decode cK5_isOf 24 = .ok (.invokevirtual 88, 3) := by decide +kernel
theorem dK5_isOf_27 : decode cK5_isOf 27 = .ok (.aload_n 0, 1) := by decide +kernel
theorem dK5_isOf_28 : decode cK5_isOf 28 = .ok (.iload_n 1, 1) := by decide +kernel
theorem dK5_isOf_29 : decode cK5_isOf 29 = .ok (.iload_n 2, 1) := by decide +kernel
theorem dK5_isOf_30 : decode cK5_isOf 30 = .ok (.invokevirtual 78, 3) := by decide +kernel
theorem dK5_isOf_33 : decode cK5_isOf 33 = .ok (.ifCond .eq 7, 3) := by decide +kernel
theorem dK5_isOf_36 : decode cK5_isOf 36 = .ok (.iconst 1, 1) := by decide +kernel
theorem dK5_isOf_37 : decode cK5_isOf 37 = .ok (.goto 4, 3) := by decide +kernel
theorem dK5_isOf_40 : decode cK5_isOf 40 = .ok (.iconst 0, 1) := by decide +kernel
theorem dK5_isOf_41 : decode cK5_isOf 41 = .ok (.ireturn, 1) := by decide +kernel
theorem dK5_reason_0 : decode cK5_reason 0 = .ok (.iload_n 1, 1) := by decide +kernel
theorem dK5_reason_1 : decode cK5_reason 1 = .ok (.iconst 0, 1) := by decide +kernel
theorem dK5_reason_2 : decode cK5_reason 2 = .ok (.bipush 11, 2) := by decide +kernel
theorem dK5_reason_4 : decode cK5_reason 4 = .ok (.invokestatic 61, 3) := by decide +kernel
theorem dK5_reason_7 : decode cK5_reason 7 = .ok (.ifCond .eq 13, 3) := by decide +kernel
theorem dK5_reason_10 : decode cK5_reason 10 = .ok (.iload_n 2, 1) := by decide +kernel
theorem dK5_reason_11 : decode cK5_reason 11 = .ok (.iconst 0, 1) := by decide +kernel
theorem dK5_reason_12 : decode cK5_reason 12 = .ok (.bipush 11, 2) := by decide +kernel
theorem dK5_reason_14 : decode cK5_reason 14 = .ok (.invokestatic 61, 3) := by decide +kernel
theorem dK5_reason_17 : decode cK5_reason 17 = .ok (.ifCond .ne 5, 3) := by decide +kernel
theorem dK5_reason_20 : decode cK5_reason 20 = .ok (.iconst (-1), 1) := by decide +kernel
theorem dK5_reason_21 : decode cK5_reason 21 = .ok (.ireturn, 1) := by decide +kernel
theorem dK5_reason_22 : decode cK5_reason 22 = .ok (.aload_n 0, 1) := by decide +kernel
theorem dK5_reason_23 : decode cK5_reason 23 = .ok (.iload_n 2, 1) := by decide +kernel
theorem dK5_reason_24 : decode cK5_reason 24 = .ok (.invokevirtual 96, 3) := by decide +kernel
theorem dK5_reason_27 : decode cK5_reason 27 = .ok (.iconst (-1), 1) := by decide +kernel
theorem dK5_reason_28 : decode cK5_reason 28 = .ok (.istore 4, 2) := by decide +kernel
theorem dK5_reason_30 : decode cK5_reason 30 = .ok (.bipush 11, 2) := by decide +kernel
theorem dK5_reason_32 : decode cK5_reason 32 = .ok (.istore 5, 2) := by decide +kernel
theorem dK5_reason_34 : decode cK5_reason 34 = .ok (.iload 5, 2) := by decide +kernel
theorem dK5_reason_36 : decode cK5_reason 36 = .ok (.ifCond .lt 79, 3) := by decide +kernel
theorem dK5_reason_39 : decode cK5_reason 39 = .ok (.aload_n 0, 1) := by decide +kernel
theorem dK5_reason_40 : decode cK5_reason 40 = .ok (.getfield 7, 3) := by decide +kernel
theorem dK5_reason_43 : decode cK5_reason 43 = .ok (.iload_n 1, 1) := by decide +kernel
theorem dK5_reason_44 : decode cK5_reason 44 = .ok (.iconst 0, 1) := by decide +kernel
theorem dK5_reason_45 : decode cK5_reason 45 = .ok (.iload 5, 2) := by decide +kernel
theorem dK5_reason_47 : decode cK5_reason 47 = .ok (.invokestatic 68, 3) := by decide +kernel
theorem dK5_reason_50 : decode cK5_reason 50 = .ok (.baload, 1) := by decide +kernel
theorem dK5_reason_51 : decode cK5_reason 51 = .ok (.ifCond .eq 19, 3) := by decide +kernel
theorem dK5_reason_54 : decode cK5_reason 54 = .ok (.aload_n 0, 1) := by decide +kernel
theorem dK5_reason_55 : decode cK5_reason 55 = .ok (.getfield 51, 3) := by decide +kernel
theorem dK5_reason_58 : decode cK5_reason 58 = .ok (.iload 5, 2) := by decide +kernel
theorem dK5_reason_60 : decode cK5_reason 60 = .ok (.iaload, 1) := by decide +kernel
theorem dK5_reason_61 : decode cK5_reason 61 = .ok (.bipush 99, 2) := by decide +kernel
theorem dK5_reason_63 : decode cK5_reason 63 = .ok (.if_icmp .ge 7, 3) := by decide +kernel
theorem dK5_reason_66 : decode cK5_reason 66 = .ok (.iconst 1, 1) := by decide +kernel
theorem dK5_reason_67 : decode cK5_reason 67 = .ok (.goto 4, 3) := by decide +kernel
theorem dK5_reason_70 : decode cK5_reason 70 = .ok (.iconst 0, 1) := by decide +kernel
theorem dK5_reason_71 : decode cK5_reason 71 = .ok (.istore 6, 2) := by decide +kernel
theorem dK5_reason_73 : decode cK5_reason 73 = .ok (.iload 6, 2) := by decide +kernel
theorem dK5_reason_75 : decode cK5_reason 75 = .ok (.ifCond .eq 30, 3) := by decide +kernel
theorem dK5_reason_78 : decode cK5_reason 78 = .ok (.iload 4, 2) := by decide +kernel
theorem dK5_reason_80 : decode cK5_reason 80 = .ok (.ifCond .lt 20, 3) := by decide +kernel
theorem dK5_reason_83 : decode cK5_reason 83 = .ok (.aload_n 0, 1) := by decide +kernel
theorem dK5_reason_84 : decode cK5_reason 84 = .ok (.getfield 51, 3) := by decide +kernel
theorem dK5_reason_87 : decode cK5_reason 87 = .ok (.iload 5, 2) := by decide +kernel
theorem dK5_reason_89 : decode cK5_reason 89 = .ok (.iaload, 1) := by decide +kernel
theorem dK5_reason_90 : decode cK5_reason 90 = .ok (.aload_n 0, 1) := by decide +kernel
theorem dK5_reason_91 : decode cK5_reason 91 = .ok (.getfield 51, 3) := by decide +kernel
theorem dK5_reason_94 : decode cK5_reason 94 = .ok (.iload 4, 2) := by decide +kernel
theorem dK5_reason_96 : decode cK5_reason 96 = .ok (.iaload, 1) := by decide +kernel
theorem dK5_reason_97 : decode cK5_reason 97 = .ok (.if_icmp .gt 8, 3) := by decide +kernel
theorem dK5_reason_100 : decode cK5_reason 100 = .ok (.iload 5, 2) := by decide +kernel
theorem dK5_reason_102 : decode cK5_reason 102 = .ok (.goto 5, 3) := by decide +kernel
theorem dK5_reason_105 : decode cK5_reason 105 = .ok (.iload 4, 2) := by decide +kernel
theorem dK5_reason_107 : decode cK5_reason 107 = .ok (.istore 4, 2) := by decide +kernel
theorem dK5_reason_109 : decode cK5_reason 109 = .ok (.iinc 5 (-1), 3) := by decide +kernel
theorem dK5_reason_112 : decode cK5_reason 112 = .ok (.goto (-78), 3) := by decide +kernel
theorem dK5_reason_115 : decode cK5_reason 115 = .ok (.iload 4, 2) := by decide +kernel
theorem dK5_reason_117 : decode cK5_reason 117 = .ok (.ifCond .lt 18, 3) := by decide +kernel
theorem dK5_reason_120 : decode cK5_reason 120 = .ok (.iload_n 3, 1) := by decide +kernel
theorem dK5_reason_121 : decode cK5_reason 121 = .ok (.ifCond .lt 14, 3) := by decide +kernel
theorem dK5_reason_124 : decode cK5_reason 124 = .ok (.iload_n 3, 1) := by decide +kernel
theorem dK5_reason_125 : decode cK5_reason 125 = .ok (.aload_n 0, 1) := by decide +kernel
theorem dK5_reason_126 : decode cK5_reason 126 = .ok (.getfield 51, 3) := by decide +kernel
theorem dK5_reason_129 : decode cK5_reason 129 = .ok (.iload 4, 2) := by decide +kernel
theorem dK5_reason_131 : decode cK5_reason 131 = .ok (.iaload, 1) := by decide +kernel
theorem dK5_reason_132 : decode cK5_reason 132 = .ok (.if_icmp .le 6, 3) := by decide +kernel
theorem dK5_reason_135 : decode cK5_reason 135 = .ok (.bipush (-2), 2) := by decide +kernel
theorem dK5_reason_137 : decode cK5_reason 137 = .ok (.ireturn, 1) := by decide +kernel
theorem dK5_reason_138 : decode cK5_reason 138 = .ok (.iload_n 3, 1) := by decide +kernel
theorem dK5_reason_139 : decode cK5_reason 139 = .ok (.ifCond .ne 11, 3) := by decide +kernel
theorem dK5_reason_142 : decode cK5_reason 142 = .ok (.iload_n 1, 1) := by decide +kernel
theorem dK5_reason_143 : decode cK5_reason 143 = .ok (.iconst 0, 1) := by decide +kernel
theorem dK5_reason_144 : decode cK5_reason 144 = .ok (.iload 4, 2) := by decide +kernel
theorem dK5_reason_146 : decode cK5_reason 146 = .ok (.invokestatic 68, 3) := by decide +kernel
theorem dK5_reason_149 : decode cK5_reason 149 = .ok (.ireturn, 1) := by decide +kernel
theorem dK5_reason_150 : decode cK5_reason 150 = .ok (.iload 4, 2) := by decide +kernel
theorem dK5_reason_152 : decode cK5_reason 152 = .ok (.istore 5, 2) := by decide +kernel
theorem dK5_reason_154 : decode cK5_reason 154 = .ok (.iconst 1, 1) := by decide +kernel
theorem dK5_reason_155 : decode cK5_reason 155 = .ok (.istore 6, 2) := by decide +kernel
theorem dK5_reason_157 : decode cK5_reason 157 = .ok (.iload 6, 2) := by decide +kernel
theorem dK5_reason_159 : decode cK5_reason 159 = .ok (.iload_n 3, 1) := by decide +kernel
theorem dK5_reason_160 : decode cK5_reason 160 = .ok (.if_icmp .gt 90, 3) := by decide +kernel
theorem dK5_reason_163 : decode cK5_reason 163 = .ok (.iconst (-1), 1) := by decide +kernel
theorem dK5_reason_164 : decode cK5_reason 164 = .ok (.istore 7, 2) := by decide +kernel
theorem dK5_reason_166 : decode cK5_reason 166 = .ok (.bipush 11, 2) := by decide +kernel
theorem dK5_reason_168 : decode cK5_reason 168 = .ok (.istore 8, 2) := by decide +kernel
theorem dK5_reason_170 : decode cK5_reason 170 = .ok (.iload 8, 2) := by decide +kernel
theorem dK5_reason_172 : decode cK5_reason 172 = .ok (.ifCond .lt 53, 3) := by decide +kernel
theorem dK5_reason_175 : decode cK5_reason 175 = .ok (.aload_n 0, 1) := by decide +kernel
theorem dK5_reason_176 : decode cK5_reason 176 = .ok (.getfield 7, 3) := by decide +kernel
theorem dK5_reason_179 : decode cK5_reason 179 = .ok (.iload 5, 2) := by decide +kernel
theorem dK5_reason_181 : decode cK5_reason 181 = .ok (.iconst 1, 1) := by decide +kernel
theorem dK5_reason_182 : decode cK5_reason 182 = .ok (.iload 8, 2) := by decide +kernel
theorem dK5_reason_184 : decode cK5_reason 184 = .ok (.invokestatic 68, 3) := by decide +kernel
theorem dK5_reason_187 : decode cK5_reason 187 = .ok (.baload, 1) := by decide +kernel
theorem dK5_reason_188 : decode cK5_reason 188 = .ok (.ifCond .eq 27, 3) := by decide +kernel
theorem dK5_reason_191 : decode cK5_reason 191 = .ok (.aload_n 0, 1) := by decide +kernel
theorem dK5_reason_192 : decode cK5_reason 192 = .ok (.getfield 51, 3) := by decide +kernel
theorem dK5_reason_195 : decode cK5_reason 195 = .ok (.iload 8, 2) := by decide +kernel
theorem dK5_reason_197 : decode cK5_reason 197 = .ok (.iaload, 1) := by decide +kernel
theorem dK5_reason_198 : decode cK5_reason 198 = .ok (.aload_n 0, 1) := by decide +kernel
theorem dK5_reason_199 : decode cK5_reason 199 = .ok (.getfield 51, 3) := by decide +kernel
theorem dK5_reason_202 : decode cK5_reason 202 = .ok (.iload 5, 2) := by decide +kernel
theorem dK5_reason_204 : decode cK5_reason 204 = .ok (.iaload, 1) := by decide +kernel
theorem dK5_reason_205 : decode cK5_reason 205 = .ok (.iconst 1, 1) := by decide +kernel
theorem dK5_reason_206 : decode cK5_reason 206 = .ok (.isub, 1) := by decide +kernel
theorem dK5_reason_207 : decode cK5_reason 207 = .ok (.if_icmp .ne 8, 3) := by decide +kernel
theorem dK5_reason_210 : decode cK5_reason 210 = .ok (.iload 8, 2) := by decide +kernel
theorem dK5_reason_212 : decode cK5_reason 212 = .ok (.goto 5, 3) := by decide +kernel
theorem dK5_reason_215 : decode cK5_reason 215 = .ok (.iload 7, 2) := by decide +kernel
theorem dK5_reason_217 : decode cK5_reason 217 = .ok (.istore 7, 2) := by decide +kernel
theorem dK5_reason_219 : decode cK5_reason 219 = .ok (.iinc 8 (-1), 3) := by decide +kernel
theorem dK5_reason_222 : decode cK5_reason 222 = .ok (.goto (-52), 3) := by decide +kernel
theorem dK5_reason_225 : decode cK5_reason 225 = .ok (.iload 6, 2) := by decide +kernel
theorem dK5_reason_227 : decode cK5_reason 227 = .ok (.iload_n 3, 1) := by decide +kernel
theorem dK5_reason_228 : decode cK5_reason 228 = .ok (.if_icmp .ne 12, 3) := by decide +kernel
theorem dK5_reason_231 : decode cK5_reason 231 = .ok (.iload 5, 2) := by decide +kernel
theorem dK5_reason_233 : decode cK5_reason 233 = .ok (.iconst 1, 1) := by decide +kernel
theorem dK5_reason_234 : decode cK5_reason 234 = .ok (.iload 7, 2) := by decide +kernel
theorem dK5_reason_236 : decode cK5_reason 236 = .ok (.invokestatic 68, 3) := by decide +kernel
theorem dK5_reason_239 : decode cK5_reason 239 = .ok (.ireturn, 1) := by decide +kernel
theorem dK5_reason_240 : decode cK5_reason 240 = .ok (.iload 7, 2) := by decide +kernel
theorem dK5_reason_242 : decode cK5_reason 242 = .ok (.istore 5, 2) := by decide +kernel
theorem dK5_reason_244 : decode cK5_reason 244 = .ok (.iinc 6 1, 3) := by decide +kernel
theorem dK5_reason_247 : decode cK5_reason 247 = .ok (.goto (-90), 3) := by decide +kernel
theorem dK5_reason_250 : decode cK5_reason 250 = .ok (.bipush (-2), 2) := by decide +kernel
theorem dK5_reason_252 : decode cK5_reason 252 = .ok (.ireturn, 1) := by decide +kernel
theorem dK5_measure_0 : decode cK5_measure 0 = .ok (.iconst 0, 1) := by decide +kernel
theorem dK5_measure_1 : decode cK5_measure 1 = .ok (.istore_n 2, 1) := by decide +kernel
theorem dK5_measure_2 : decode cK5_measure 2 = .ok (.iload_n 2, 1) := by decide +kernel
theorem dK5_measure_3 : decode cK5_measure 3 = .ok (.bipush 12, 2) := by decide +kernel
theorem dK5_measure_5 : decode cK5_measure 5 = .ok (.if_icmp .ge 26, 3) := by decide +kernel
theorem dK5_measure_8 : decode cK5_measure 8 = .ok (.aload_n 0, 1) := by decide +kernel
theorem dK5_measure_9 : decode cK5_measure 9 = .ok (.getfield 51, 3) := by decide +kernel
theorem dK5_measure_12 : decode cK5_measure 12 = .ok (.iload_n 2, 1) := by decide +kernel
theorem dK5_measure_13 : decode cK5_measure 13 = .ok (.iload_n 2, 1) := by decide +kernel
theorem dK5_measure_14 : decode cK5_measure 14 = .ok (.iload_n 1, 1) := by decide +kernel
theorem dK5_measure_15 : decode cK5_measure 15 = .ok (.if_icmp .ne 7, 3) := by decide +kernel
theorem dK5_measure_18 : decode cK5_measure 18 = .ok (.iconst 0, 1) := by decide +kernel
theorem dK5_measure_19 : decode cK5_measure 19 = .ok (.goto 5, 3) := by decide +kernel
theorem dK5_measure_22 : decode cK5_measure 22 = .ok (.bipush 99, 2) := by decide +kernel
theorem dK5_measure_24 : decode cK5_measure 24 = .ok (.iastore, 1) := by decide +kernel
theorem dK5_measure_25 : decode cK5_measure 25 = .ok (.iinc 2 1, 3) := by decide +kernel
theorem dK5_measure_28 : decode cK5_measure 28 = .ok (.goto (-26), 3) := by decide +kernel
theorem dK5_measure_31 : decode cK5_measure 31 = .ok (.iconst 0, 1) := by decide +kernel
theorem dK5_measure_32 : decode cK5_measure 32 = .ok (.istore_n 2, 1) := by decide +kernel
theorem dK5_measure_33 : decode cK5_measure 33 = .ok (.iload_n 2, 1) := by decide +kernel
theorem dK5_measure_34 : decode cK5_measure 34 = .ok (.bipush 12, 2) := by decide +kernel
theorem dK5_measure_36 : decode cK5_measure 36 = .ok (.if_icmp .ge 87, 3) := by decide +kernel
theorem dK5_measure_39 : decode cK5_measure 39 = .ok (.iconst 0, 1) := by decide +kernel
theorem dK5_measure_40 : decode cK5_measure 40 = .ok (.istore_n 3, 1) := by decide +kernel
theorem dK5_measure_41 : decode cK5_measure 41 = .ok (.iload_n 3, 1) := by decide +kernel
theorem dK5_measure_42 : decode cK5_measure 42 = .ok (.bipush 12, 2) := by decide +kernel
theorem dK5_measure_44 : decode cK5_measure 44 = .ok (.if_icmp .ge 73, 3) := by decide +kernel
theorem dK5_measure_47 : decode cK5_measure 47 = .ok (.iconst 0, 1) := by decide +kernel
theorem dK5_measure_48 : decode cK5_measure 48 = .ok (.istore 4, 2) := by decide +kernel
theorem dK5_measure_50 : decode cK5_measure 50 = .ok (.iload 4, 2) := by decide +kernel
theorem dK5_measure_52 : decode cK5_measure 52 = .ok (.bipush 12, 2) := by decide +kernel
theorem dK5_measure_54 : decode cK5_measure 54 = .ok (.if_icmp .ge 57, 3) := by decide +kernel
theorem dK5_measure_57 : decode cK5_measure 57 = .ok (.aload_n 0, 1) := by decide +kernel
theorem dK5_measure_58 : decode cK5_measure 58 = .ok (.getfield 7, 3) := by decide +kernel
theorem dK5_measure_61 : decode cK5_measure 61 = .ok (.iload_n 3, 1) := by decide +kernel
theorem dK5_measure_62 : decode cK5_measure 62 = .ok (.iconst 1, 1) := by decide +kernel
theorem dK5_measure_63 : decode cK5_measure 63 = .ok (.iload 4, 2) := by decide +kernel
theorem dK5_measure_65 : decode cK5_measure 65 = .ok (.invokestatic 68, 3) := by decide +kernel
theorem dK5_measure_68 : decode cK5_measure 68 = .ok (.baload, 1) := by decide +kernel
theorem dK5_measure_69 : decode cK5_measure 69 = .ok (.ifCond .eq 36, 3) := by decide +kernel
theorem dK5_measure_72 : decode cK5_measure 72 = .ok (.aload_n 0, 1) := by decide +kernel
theorem dK5_measure_73 : decode cK5_measure 73 = .ok (.getfield 51, 3) := by decide +kernel
theorem dK5_measure_76 : decode cK5_measure 76 = .ok (.iload 4, 2) := by decide +kernel
theorem dK5_measure_78 : decode cK5_measure 78 = .ok (.iaload, 1) := by decide +kernel
theorem dK5_measure_79 : decode cK5_measure 79 = .ok (.iconst 1, 1) := by decide +kernel
theorem dK5_measure_80 : decode cK5_measure 80 = .ok (.iadd, 1) := by decide +kernel
theorem dK5_measure_81 : decode cK5_measure 81 = .ok (.aload_n 0, 1) := by decide +kernel
theorem dK5_measure_82 : decode cK5_measure 82 = .ok (.getfield 51, 3) := by decide +kernel
theorem dK5_measure_85 : decode cK5_measure 85 = .ok (.iload_n 3, 1) := by decide +kernel
theorem dK5_measure_86 : decode cK5_measure 86 = .ok (.iaload, 1) := by decide +kernel
theorem dK5_measure_87 : decode cK5_measure 87 = .ok (.if_icmp .ge 18, 3) := by decide +kernel
theorem dK5_measure_90 : decode cK5_measure 90 = .ok (.aload_n 0, 1) := by decide +kernel
theorem dK5_measure_91 : decode cK5_measure 91 = .ok (.getfield 51, 3) := by decide +kernel
theorem dK5_measure_94 : decode cK5_measure 94 = .ok (.iload_n 3, 1) := by decide +kernel
theorem dK5_measure_95 : decode cK5_measure 95 = .ok (.aload_n 0, 1) := by decide +kernel
theorem dK5_measure_96 : decode cK5_measure 96 = .ok (.getfield 51, 3) := by decide +kernel
theorem dK5_measure_99 : decode cK5_measure 99 = .ok (.iload 4, 2) := by decide +kernel
theorem dK5_measure_101 : decode cK5_measure 101 = .ok (.iaload, 1) := by decide +kernel
theorem dK5_measure_102 : decode cK5_measure 102 = .ok (.iconst 1, 1) := by decide +kernel
theorem dK5_measure_103 : decode cK5_measure 103 = .ok (.iadd, 1) := by decide +kernel
theorem dK5_measure_104 : decode cK5_measure 104 = .ok (.iastore, 1) := by decide +kernel
theorem dK5_measure_105 : decode cK5_measure 105 = .ok (.iinc 4 1, 3) := by decide +kernel
theorem dK5_measure_108 : decode cK5_measure 108 = .ok (.goto (-58), 3) := by decide +kernel
theorem dK5_measure_111 : decode cK5_measure 111 = .ok (.iinc 3 1, 3) := by decide +kernel
theorem dK5_measure_114 : decode cK5_measure 114 = .ok (.goto (-73), 3) := by decide +kernel
theorem dK5_measure_117 : decode cK5_measure 117 = .ok (.iinc 2 1, 3) := by decide +kernel
theorem dK5_measure_120 : decode cK5_measure 120 = .ok (.goto (-87), 3) := by decide +kernel
theorem dK5_measure_123 : decode cK5_measure 123 = .ok (.return_, 1) := by decide +kernel
theorem dK5_change_0 : decode cK5_change 0 = .ok (.iload_n 2, 1) := by decide +kernel
theorem dK5_change_1 : decode cK5_change 1 = .ok (.iload_n 3, 1) := by decide +kernel
theorem dK5_change_2 : decode cK5_change 2 = .ok (.iload 4, 2) := by decide +kernel
theorem dK5_change_4 : decode cK5_change 4 = .ok (.invokestatic 65, 3) := by decide +kernel
theorem dK5_change_7 : decode cK5_change 7 = .ok (.ifCond .eq 14, 3) := by decide +kernel
theorem dK5_change_10 : decode cK5_change 10 = .ok (.iload 5, 2) := by decide +kernel
theorem dK5_change_12 : decode cK5_change 12 = .ok (.iconst 1, 1) := by decide +kernel
theorem dK5_change_13 : decode cK5_change 13 = .ok (.bipush 9, 2) := by decide +kernel
theorem dK5_change_15 : decode cK5_change 15 = .ok (.invokestatic 61, 3) := by decide +kernel
theorem dK5_change_18 : decode cK5_change 18 = .ok (.ifCond .ne 5, 3) := by decide +kernel
theorem dK5_change_21 : decode cK5_change 21 = .ok (.iconst (-1), 1) := by decide +kernel
theorem dK5_change_22 : decode cK5_change 22 = .ok (.ireturn, 1) := by decide +kernel
theorem dK5_change_23 : decode cK5_change 23 = .ok (.aload_n 0, 1) := by decide +kernel
theorem dK5_change_24 : decode cK5_change 24 = .ok (.iload_n 1, 1) := by decide +kernel
theorem dK5_change_25 : decode cK5_change 25 = .ok (.iload_n 2, 1) := by decide +kernel
theorem dK5_change_26 : decode cK5_change 26 = .ok (.iload_n 3, 1) := by decide +kernel
theorem dK5_change_27 : decode cK5_change 27 = .ok (.iload 4, 2) := by decide +kernel
theorem dK5_change_29 : decode cK5_change 29 = .ok (.invokestatic 68, 3) := by decide +kernel
theorem dK5_change_32 : decode cK5_change 32 = .ok (.invokevirtual 99, 3) := by decide +kernel
theorem dK5_change_35 : decode cK5_change 35 = .ok (.ifCond .eq 6, 3) := by decide +kernel
theorem dK5_change_38 : decode cK5_change 38 = .ok (.bipush (-2), 2) := by decide +kernel
theorem dK5_change_40 : decode cK5_change 40 = .ok (.ireturn, 1) := by decide +kernel
theorem dK5_change_41 : decode cK5_change 41 = .ok (.aload_n 0, 1) := by decide +kernel
theorem dK5_change_42 : decode cK5_change 42 = .ok (.getfield 75, 3) := by decide +kernel
theorem dK5_change_45 : decode cK5_change 45 = .ok (.bipush 12, 2) := by decide +kernel
theorem dK5_change_47 : decode cK5_change 47 = .ok (.if_icmp .ne 6, 3) := by decide +kernel
theorem dK5_change_50 : decode cK5_change 50 = .ok (.bipush (-3), 2) := by decide +kernel
theorem dK5_change_52 : decode cK5_change 52 = .ok (.ireturn, 1) := by decide +kernel
theorem dK5_change_53 : decode cK5_change 53 = .ok (.aload_n 0, 1) := by decide +kernel
theorem dK5_change_54 : decode cK5_change 54 = .ok (.iload_n 1, 1) := by decide +kernel
theorem dK5_change_55 : decode cK5_change 55 = .ok (.iload_n 2, 1) := by decide +kernel
theorem dK5_change_56 : decode cK5_change 56 = .ok (.iload_n 3, 1) := by decide +kernel
theorem dK5_change_57 : decode cK5_change 57 = .ok (.iload 4, 2) := by decide +kernel
theorem dK5_change_59 : decode cK5_change 59 = .ok (.invokestatic 68, 3) := by decide +kernel
theorem dK5_change_62 : decode cK5_change 62 = .ok (.iload 5, 2) := by decide +kernel
theorem dK5_change_64 : decode cK5_change 64 = .ok (.invokevirtual 103, 3) := by decide +kernel
theorem dK5_change_67 : decode cK5_change 67 = .ok (.aload_n 0, 1) := by decide +kernel
theorem dK5_change_68 : decode cK5_change 68 = .ok (.getfield 75, 3) := by decide +kernel
theorem dK5_change_71 : decode cK5_change 71 = .ok (.iconst 1, 1) := by decide +kernel
theorem dK5_change_72 : decode cK5_change 72 = .ok (.isub, 1) := by decide +kernel
theorem dK5_change_73 : decode cK5_change 73 = .ok (.ireturn, 1) := by decide +kernel
theorem dK5_isThere_0 : decode cK5_isThere 0 = .ok (.iconst 0, 1) := by decide +kernel
theorem dK5_isThere_1 : decode cK5_isThere 1 = .ok (.istore_n 3, 1) := by decide +kernel
theorem dK5_isThere_2 : decode cK5_isThere 2 = .ok (.iconst 0, 1) := by decide +kernel
theorem dK5_isThere_3 : decode cK5_isThere 3 = .ok (.istore 4, 2) := by decide +kernel
theorem dK5_isThere_5 : decode cK5_isThere 5 = .ok (.iload 4, 2) := by decide +kernel
theorem dK5_isThere_7 : decode cK5_isThere 7 = .ok (.aload_n 0, 1) := by decide +kernel
theorem dK5_isThere_8 : decode cK5_isThere 8 = .ok (.getfield 75, 3) := by decide +kernel
theorem dK5_isThere_11 : decode cK5_isThere 11 = .ok (.if_icmp .ge 41, 3) := by decide +kernel
theorem dK5_isThere_14 : decode cK5_isThere 14 = .ok (.iload_n 3, 1) := by decide +kernel
theorem dK5_isThere_15 : decode cK5_isThere 15 = .ok (.ifCond .ne 25, 3) := by decide +kernel
theorem dK5_isThere_18 : decode cK5_isThere 18 = .ok (.aload_n 0, 1) := by decide +kernel
theorem dK5_isThere_19 : decode cK5_isThere 19 = .ok (.getfield 29, 3) := by decide +kernel
theorem dK5_isThere_22 : decode cK5_isThere 22 = .ok (.iload 4, 2) := by decide +kernel
theorem dK5_isThere_24 : decode cK5_isThere 24 = .ok (.baload, 1) := by decide +kernel
theorem dK5_isThere_25 : decode cK5_isThere 25 = .ok (.iload_n 1, 1) := by decide +kernel
theorem dK5_isThere_26 : decode cK5_isThere 26 = .ok (.if_icmp .ne 18, 3) := by decide +kernel
theorem dK5_isThere_29 : decode cK5_isThere 29 = .ok (.aload_n 0, 1) := by decide +kernel
theorem dK5_isThere_30 : decode cK5_isThere 30 = .ok (.getfield 32, 3) := by decide +kernel
theorem dK5_isThere_33 : decode cK5_isThere 33 = .ok (.iload 4, 2) := by decide +kernel
theorem dK5_isThere_35 : decode cK5_isThere 35 = .ok (.iaload, 1) := by decide +kernel
theorem dK5_isThere_36 : decode cK5_isThere 36 = .ok (.iload_n 2, 1) := by decide +kernel
theorem dK5_isThere_37 : decode cK5_isThere 37 = .ok (.if_icmp .ne 7, 3) := by decide +kernel
theorem dK5_isThere_40 : decode cK5_isThere 40 = .ok (.iconst 1, 1) := by decide +kernel
theorem dK5_isThere_41 : decode cK5_isThere 41 = .ok (.goto 4, 3) := by decide +kernel
theorem dK5_isThere_44 : decode cK5_isThere 44 = .ok (.iconst 0, 1) := by decide +kernel
theorem dK5_isThere_45 : decode cK5_isThere 45 = .ok (.istore_n 3, 1) := by decide +kernel
theorem dK5_isThere_46 : decode cK5_isThere 46 = .ok (.iinc 4 1, 3) := by decide +kernel
theorem dK5_isThere_49 : decode cK5_isThere 49 = .ok (.goto (-44), 3) := by decide +kernel
theorem dK5_isThere_52 : decode cK5_isThere 52 = .ok (.iload_n 3, 1) := by decide +kernel
theorem dK5_isThere_53 : decode cK5_isThere 53 = .ok (.ireturn, 1) := by decide +kernel
theorem dK5_enter_0 : decode cK5_enter 0 = .ok (.aload_n 0, 1) := by decide +kernel
theorem dK5_enter_1 : decode cK5_enter 1 = .ok (.getfield 29, 3) := by decide +kernel
theorem dK5_enter_4 : decode cK5_enter 4 = .ok (.aload_n 0, 1) := by decide +kernel
theorem dK5_enter_5 : decode cK5_enter 5 = .ok (.getfield 75, 3) := by decide +kernel
theorem dK5_enter_8 : decode cK5_enter 8 = .ok (.iload_n 1, 1) := by decide +kernel
theorem dK5_enter_9 : decode cK5_enter 9 = .ok (.bastore, 1) := by decide +kernel
theorem dK5_enter_10 : decode cK5_enter 10 = .ok (.aload_n 0, 1) := by decide +kernel
theorem dK5_enter_11 : decode cK5_enter 11 = .ok (.getfield 32, 3) := by decide +kernel
theorem dK5_enter_14 : decode cK5_enter 14 = .ok (.aload_n 0, 1) := by decide +kernel
theorem dK5_enter_15 : decode cK5_enter 15 = .ok (.getfield 75, 3) := by decide +kernel
theorem dK5_enter_18 : decode cK5_enter 18 = .ok (.iload_n 2, 1) := by decide +kernel
theorem dK5_enter_19 : decode cK5_enter 19 = .ok (.iastore, 1) := by decide +kernel
theorem dK5_enter_20 : decode cK5_enter 20 = .ok (.aload_n 0, 1) := by decide +kernel
theorem dK5_enter_21 : decode cK5_enter 21 = .ok (.getfield 35, 3) := by decide +kernel
theorem dK5_enter_24 : decode cK5_enter 24 = .ok (.aload_n 0, 1) := by decide +kernel
theorem dK5_enter_25 : decode cK5_enter 25 = .ok (.getfield 75, 3) := by decide +kernel
theorem dK5_enter_28 : decode cK5_enter 28 = .ok (.iload_n 3, 1) := by decide +kernel
theorem dK5_enter_29 : decode cK5_enter 29 = .ok (.iastore, 1) := by decide +kernel
theorem dK5_enter_30 : decode cK5_enter 30 = .ok (.aload_n 0, 1) := by decide +kernel
theorem dK5_enter_31 : decode cK5_enter 31 = .ok (.dup, 1) := by decide +kernel
