theorem dK0_nthResult_73 : decode cK0_nthResult 73 = .ok (.if_icmp .ge 16, 3) := by decide +kernel
theorem dK0_nthResult_76 : decode cK0_nthResult 76 = .ok (.bipush 12, 2) := by decide +kernel
theorem dK0_nthResult_78 : decode cK0_nthResult 78 = .ok (.iload 4, 2) := by decide +kernel
theorem dK0_nthResult_80 : decode cK0_nthResult 80 = .ok (.imul, 1) := by decide +kernel
theorem dK0_nthResult_81 : decode cK0_nthResult 81 = .ok (.iload 5, 2) := by decide +kernel
theorem dK0_nthResult_83 : decode cK0_nthResult 83 = .ok (.iload_n 3, 1) := by decide +kernel
theorem dK0_nthResult_84 : decode cK0_nthResult 84 = .ok (.invokestatic 153, 3) := by decide +kernel
theorem dK0_nthResult_87 : decode cK0_nthResult 87 = .ok (.iadd, 1) := by decide +kernel
theorem dK0_nthResult_88 : decode cK0_nthResult 88 = .ok (.ireturn, 1) := by decide +kernel
theorem dK0_nthResult_89 : decode cK0_nthResult 89 = .ok (.iload_n 3, 1) := by decide +kernel
theorem dK0_nthResult_90 : decode cK0_nthResult 90 = .ok (.iload 6, 2) := by decide +kernel
theorem dK0_nthResult_92 : decode cK0_nthResult 92 = .ok (.isub, 1) := by decide +kernel
theorem dK0_nthResult_93 : decode cK0_nthResult 93 = .ok (.istore_n 3, 1) := by decide +kernel
theorem dK0_nthResult_94 : decode cK0_nthResult 94 = .ok (.iinc 4 1, 3) := by decide +kernel
theorem dK0_nthResult_97 : decode cK0_nthResult 97 = .ok (.goto (-85), 3) := by decide +kernel
theorem dK0_nthResult_100 : decode cK0_nthResult 100 = .ok (.bipush (-2), 2) := by decide +kernel
theorem dK0_nthResult_102 : decode cK0_nthResult 102 = .ok (.ireturn, 1) := by decide +kernel
theorem dK0_nthMember_0 : decode cK0_nthMember 0 = .ok (.iload_n 1, 1) := by decide +kernel
theorem dK0_nthMember_1 : decode cK0_nthMember 1 = .ok (.istore_n 2, 1) := by decide +kernel
theorem dK0_nthMember_2 : decode cK0_nthMember 2 = .ok (.iconst 0, 1) := by decide +kernel
theorem dK0_nthMember_3 : decode cK0_nthMember 3 = .ok (.istore_n 3, 1) := by decide +kernel
theorem dK0_nthMember_4 : decode cK0_nthMember 4 = .ok (.iload_n 3, 1) := by decide +kernel
theorem dK0_nthMember_5 : decode cK0_nthMember 5 = .ok (.bipush 12, 2) := by decide +kernel
theorem dK0_nthMember_7 : decode cK0_nthMember 7 = .ok (.if_icmp .ge 26, 3) := by decide +kernel
theorem dK0_nthMember_10 : decode cK0_nthMember 10 = .ok (.iload_n 0, 1) := by decide +kernel
theorem dK0_nthMember_11 : decode cK0_nthMember 11 = .ok (.iload_n 3, 1) := by decide +kernel
theorem dK0_nthMember_12 : decode cK0_nthMember 12 = .ok (.invokestatic 180, 3) := by decide +kernel
theorem dK0_nthMember_15 : decode cK0_nthMember 15 = .ok (.ifCond .eq 12, 3) := by decide +kernel
theorem dK0_nthMember_18 : decode cK0_nthMember 18 = .ok (.iload_n 2, 1) := by decide +kernel
theorem dK0_nthMember_19 : decode cK0_nthMember 19 = .ok (.ifCond .ne 5, 3) := by decide +kernel
theorem dK0_nthMember_22 : decode cK0_nthMember 22 = .ok (.iload_n 3, 1) := by decide +kernel
theorem dK0_nthMember_23 : decode cK0_nthMember 23 = .ok (.ireturn, 1) := by decide +kernel
theorem dK0_nthMember_24 : decode cK0_nthMember 24 = .ok (.iinc 2 (-1), 3) := by decide +kernel
theorem dK0_nthMember_27 : decode cK0_nthMember 27 = .ok (.iinc 3 1, 3) := by decide +kernel
theorem dK0_nthMember_30 : decode cK0_nthMember 30 = .ok (.goto (-26), 3) := by decide +kernel
theorem dK0_nthMember_33 : decode cK0_nthMember 33 = .ok (.bipush (-2), 2) := by decide +kernel
theorem dK0_nthMember_35 : decode cK0_nthMember 35 = .ok (.ireturn, 1) := by decide +kernel
theorem dK0_isOf_0 : decode cK0_isOf 0 = .ok (.iload_n 1, 1) := by decide +kernel
theorem dK0_isOf_1 : decode cK0_isOf 1 = .ok (.invokestatic 65, 3) := by decide +kernel
theorem dK0_isOf_4 : decode cK0_isOf 4 = .ok (.ifCond .eq 10, 3) := by decide +kernel
theorem dK0_isOf_7 : decode cK0_isOf 7 = .ok (.iload_n 2, 1) := by decide +kernel
theorem dK0_isOf_8 : decode cK0_isOf 8 = .ok (.invokestatic 65, 3) := by decide +kernel
theorem dK0_isOf_11 : decode cK0_isOf 11 = .ok (.ifCond .ne 5, 3) := by decide +kernel
theorem dK0_isOf_14 : decode cK0_isOf 14 = .ok (.iconst (-1), 1) := by decide +kernel
theorem dK0_isOf_15 : decode cK0_isOf 15 = .ok (.ireturn, 1) := by decide +kernel
theorem dK0_isOf_16 : decode cK0_isOf 16 = .ok (.aload_n 0, 1) := by decide +kernel
theorem dK0_isOf_17 : decode cK0_isOf 17 = .ok (.getfield 12, 3) := by decide +kernel
theorem dK0_isOf_20 : decode cK0_isOf 20 = .ok (.iload_n 1, 1) := by decide +kernel
theorem dK0_isOf_21 : decode cK0_isOf 21 = .ok (.iload_n 2, 1) := by decide +kernel
theorem dK0_isOf_22 : decode cK0_isOf 22 = .ok (.invokevirtual 97, 3) := by decide +kernel
theorem dK0_isOf_25 : decode cK0_isOf 25 = .ok (.ifCond .eq 7, 3) := by decide +kernel
theorem dK0_isOf_28 : decode cK0_isOf 28 = .ok (.iconst 1, 1) := by decide +kernel
theorem dK0_isOf_29 : decode cK0_isOf 29 = .ok (.goto 4, 3) := by decide +kernel
theorem dK0_isOf_32 : decode cK0_isOf 32 = .ok (.iconst 0, 1) := by decide +kernel
theorem dK0_isOf_33 : decode cK0_isOf 33 = .ok (.ireturn, 1) := by decide +kernel
theorem dK1_isMember_0 : decode cK1_isMember 0 = .ok (.aload_n 0, 1) := by decide +kernel
theorem dK1_isMember_1 : decode cK1_isMember 1 = .ok (.getfield 15, 3) := by decide +kernel
theorem dK1_isMember_4 : decode cK1_isMember 4 = .ok (.iload_n 2, 1) := by decide +kernel
theorem dK1_isMember_5 : decode cK1_isMember 5 = .ok (.iaload, 1) := by decide +kernel
theorem dK1_isMember_6 : decode cK1_isMember 6 = .ok (.iload_n 1, 1) := by decide +kernel
theorem dK1_isMember_7 : decode cK1_isMember 7 = .ok (.invokestatic 29, 3) := by decide +kernel
theorem dK1_isMember_10 : decode cK1_isMember 10 = .ok (.ireturn, 1) := by decide +kernel
theorem dK0_reason_0 : decode cK0_reason 0 = .ok (.iload_n 1, 1) := by decide +kernel
theorem dK0_reason_1 : decode cK0_reason 1 = .ok (.invokestatic 65, 3) := by decide +kernel
theorem dK0_reason_4 : decode cK0_reason 4 = .ok (.ifCond .eq 10, 3) := by decide +kernel
theorem dK0_reason_7 : decode cK0_reason 7 = .ok (.iload_n 2, 1) := by decide +kernel
theorem dK0_reason_8 : decode cK0_reason 8 = .ok (.invokestatic 65, 3) := by decide +kernel
theorem dK0_reason_11 : decode cK0_reason 11 = .ok (.ifCond .ne 5, 3) := by decide +kernel
theorem dK0_reason_14 : decode cK0_reason 14 = .ok (.iconst (-1), 1) := by decide +kernel
theorem dK0_reason_15 : decode cK0_reason 15 = .ok (.ireturn, 1) := by decide +kernel
theorem dK0_reason_16 : decode cK0_reason 16 = .ok (.aload_n 0, 1) := by decide +kernel
theorem dK0_reason_17 : decode cK0_reason 17 = .ok (.getfield 12, 3) := by decide +kernel
theorem dK0_reason_20 : decode cK0_reason 20 = .ok (.iload_n 1, 1) := by decide +kernel
theorem dK0_reason_21 : decode cK0_reason 21 = .ok (.iload_n 2, 1) := by decide +kernel
theorem dK0_reason_22 : decode cK0_reason 22 = .ok (.iload_n 3, 1) := by decide +kernel
theorem dK0_reason_23 : decode cK0_reason 23 = .ok (.invokevirtual 100, 3) := by decide +kernel
theorem dK0_reason_26 : decode cK0_reason 26 = .ok (.ireturn, 1) := by decide +kernel
theorem dK1_nthOfReason_0 : decode cK1_nthOfReason 0 = .ok (.aload_n 0, 1) := by decide +kernel
theorem dK1_nthOfReason_1 : decode cK1_nthOfReason 1 = .ok (.iload_n 1, 1) := by decide +kernel
theorem dK1_nthOfReason_2 : decode cK1_nthOfReason 2 = .ok (.iload_n 2, 1) := by decide +kernel
theorem dK1_nthOfReason_3 : decode cK1_nthOfReason 3 = .ok (.invokevirtual 49, 3) := by decide +kernel
theorem dK1_nthOfReason_6 : decode cK1_nthOfReason 6 = .ok (.istore 4, 2) := by decide +kernel
theorem dK1_nthOfReason_8 : decode cK1_nthOfReason 8 = .ok (.iload 4, 2) := by decide +kernel
theorem dK1_nthOfReason_10 : decode cK1_nthOfReason 10 = .ok (.iconst (-1), 1) := by decide +kernel
theorem dK1_nthOfReason_11 : decode cK1_nthOfReason 11 = .ok (.if_icmp .eq 13, 3) := by decide +kernel
theorem dK1_nthOfReason_14 : decode cK1_nthOfReason 14 = .ok (.iload_n 3, 1) := by decide +kernel
theorem dK1_nthOfReason_15 : decode cK1_nthOfReason 15 = .ok (.ifCond .lt 9, 3) := by decide +kernel
theorem dK1_nthOfReason_18 : decode cK1_nthOfReason 18 = .ok (.iload_n 3, 1) := by decide +kernel
theorem dK1_nthOfReason_19 : decode cK1_nthOfReason 19 = .ok (.iload 4, 2) := by decide +kernel
theorem dK1_nthOfReason_21 : decode cK1_nthOfReason 21 = .ok (.if_icmp .le 6, 3) := by decide +kernel
theorem dK1_nthOfReason_24 : decode cK1_nthOfReason 24 = .ok (.bipush (-2), 2) := by decide +kernel
theorem dK1_nthOfReason_26 : decode cK1_nthOfReason 26 = .ok (.ireturn, 1) := by decide +kernel
theorem dK1_nthOfReason_27 : decode cK1_nthOfReason 27 = .ok (.iload_n 1, 1) := by decide +kernel
theorem dK1_nthOfReason_28 : decode cK1_nthOfReason 28 = .ok (.istore 5, 2) := by decide +kernel
theorem dK1_nthOfReason_30 : decode cK1_nthOfReason 30 = .ok (.iconst 0, 1) := by decide +kernel
theorem dK1_nthOfReason_31 : decode cK1_nthOfReason 31 = .ok (.istore 6, 2) := by decide +kernel
theorem dK1_nthOfReason_33 : decode cK1_nthOfReason 33 = .ok (.aload_n 0, 1) := by decide +kernel
theorem dK1_nthOfReason_34 : decode cK1_nthOfReason 34 = .ok (.iload_n 1, 1) := by decide +kernel
theorem dK1_nthOfReason_35 : decode cK1_nthOfReason 35 = .ok (.iconst 0, 1) := by decide +kernel
theorem dK1_nthOfReason_36 : decode cK1_nthOfReason 36 = .ok (.invokevirtual 25, 3) := by decide +kernel
theorem dK1_nthOfReason_39 : decode cK1_nthOfReason 39 = .ok (.aload_n 0, 1) := by decide +kernel
theorem dK1_nthOfReason_40 : decode cK1_nthOfReason 40 = .ok (.getfield 18, 3) := by decide +kernel
theorem dK1_nthOfReason_43 : decode cK1_nthOfReason 43 = .ok (.iload 4, 2) := by decide +kernel
theorem dK1_nthOfReason_45 : decode cK1_nthOfReason 45 = .ok (.iaload, 1) := by decide +kernel
theorem dK1_nthOfReason_46 : decode cK1_nthOfReason 46 = .ok (.iand, 1) := by decide +kernel
theorem dK1_nthOfReason_47 : decode cK1_nthOfReason 47 = .ok (.invokestatic 52, 3) := by decide +kernel
theorem dK1_nthOfReason_50 : decode cK1_nthOfReason 50 = .ok (.istore 7, 2) := by decide +kernel
theorem dK1_nthOfReason_52 : decode cK1_nthOfReason 52 = .ok (.iconst 1, 1) := by decide +kernel
theorem dK1_nthOfReason_53 : decode cK1_nthOfReason 53 = .ok (.istore 8, 2) := by decide +kernel
theorem dK1_nthOfReason_55 : decode cK1_nthOfReason 55 = .ok (.iload 8, 2) := by decide +kernel
theorem dK1_nthOfReason_57 : decode cK1_nthOfReason 57 = .ok (.iload_n 3, 1) := by decide +kernel
theorem dK1_nthOfReason_58 : decode cK1_nthOfReason 58 = .ok (.if_icmp .gt 39, 3) := by decide +kernel
theorem dK1_nthOfReason_61 : decode cK1_nthOfReason 61 = .ok (.iload 7, 2) := by decide +kernel
theorem dK1_nthOfReason_63 : decode cK1_nthOfReason 63 = .ok (.istore 5, 2) := by decide +kernel
theorem dK1_nthOfReason_65 : decode cK1_nthOfReason 65 = .ok (.iconst 1, 1) := by decide +kernel
theorem dK1_nthOfReason_66 : decode cK1_nthOfReason 66 = .ok (.istore 6, 2) := by decide +kernel
theorem dK1_nthOfReason_68 : decode cK1_nthOfReason 68 = .ok (.aload_n 0, 1) := by decide +kernel
theorem dK1_nthOfReason_69 : decode cK1_nthOfReason 69 = .ok (.iload 5, 2) := by decide +kernel
theorem dK1_nthOfReason_71 : decode cK1_nthOfReason 71 = .ok (.iconst 1, 1) := by decide +kernel
theorem dK1_nthOfReason_72 : decode cK1_nthOfReason 72 = .ok (.invokevirtual 25, 3) := by decide +kernel
theorem dK1_nthOfReason_75 : decode cK1_nthOfReason 75 = .ok (.aload_n 0, 1) := by decide +kernel
theorem dK1_nthOfReason_76 : decode cK1_nthOfReason 76 = .ok (.getfield 18, 3) := by decide +kernel
theorem dK1_nthOfReason_79 : decode cK1_nthOfReason 79 = .ok (.iload 4, 2) := by decide +kernel
theorem dK1_nthOfReason_81 : decode cK1_nthOfReason 81 = .ok (.iload 8, 2) := by decide +kernel
theorem dK1_nthOfReason_83 : decode cK1_nthOfReason 83 = .ok (.isub, 1) := by decide +kernel
theorem dK1_nthOfReason_84 : decode cK1_nthOfReason 84 = .ok (.iaload, 1) := by decide +kernel
theorem dK1_nthOfReason_85 : decode cK1_nthOfReason 85 = .ok (.iand, 1) := by decide +kernel
theorem dK1_nthOfReason_86 : decode cK1_nthOfReason 86 = .ok (.invokestatic 52, 3) := by decide +kernel
theorem dK1_nthOfReason_89 : decode cK1_nthOfReason 89 = .ok (.istore 7, 2) := by decide +kernel
theorem dK1_nthOfReason_91 : decode cK1_nthOfReason 91 = .ok (.iinc 8 1, 3) := by decide +kernel
theorem dK1_nthOfReason_94 : decode cK1_nthOfReason 94 = .ok (.goto (-39), 3) := by decide +kernel
theorem dK1_nthOfReason_97 : decode cK1_nthOfReason 97 = .ok (.iload 5, 2) := by decide +kernel
theorem dK1_nthOfReason_99 : decode cK1_nthOfReason 99 = .ok (.iload 6, 2) := by decide +kernel
theorem dK1_nthOfReason_101 : decode cK1_nthOfReason 101 = .ok (.iload 7, 2) := by decide +kernel
theorem dK1_nthOfReason_103 : decode cK1_nthOfReason 103 = .ok (.invokestatic 55, 3) := by decide +kernel
theorem dK1_nthOfReason_106 : decode cK1_nthOfReason 106 = .ok (.ireturn, 1) := by decide +kernel
theorem dK1_fewestBelows_0 : decode cK1_fewestBelows 0 = .ok (.aload_n 0, 1) := by decide +kernel
theorem dK1_fewestBelows_1 : decode cK1_fewestBelows 1 = .ok (.iload_n 1, 1) := by decide +kernel
theorem dK1_fewestBelows_2 : decode cK1_fewestBelows 2 = .ok (.iconst 0, 1) := by decide +kernel
theorem dK1_fewestBelows_3 : decode cK1_fewestBelows 3 = .ok (.invokevirtual 25, 3) := by decide +kernel
theorem dK1_fewestBelows_6 : decode cK1_fewestBelows 6 = .ok (.istore_n 3, 1) := by decide +kernel
theorem dK1_fewestBelows_7 : decode cK1_fewestBelows 7 = .ok (.iconst 1, 1) := by decide +kernel
theorem dK1_fewestBelows_8 : decode cK1_fewestBelows 8 = .ok (.iload_n 2, 1) := by decide +kernel
theorem dK1_fewestBelows_9 : decode cK1_fewestBelows 9 = .ok (.ishl, 1) := by decide +kernel
theorem dK1_fewestBelows_10 : decode cK1_fewestBelows 10 = .ok (.istore 4, 2) := by decide +kernel
theorem dK1_fewestBelows_12 : decode cK1_fewestBelows 12 = .ok (.iconst 0, 1) := by decide +kernel
theorem dK1_fewestBelows_13 : decode cK1_fewestBelows 13 = .ok (.istore 5, 2) := by decide +kernel
theorem dK1_fewestBelows_15 : decode cK1_fewestBelows 15 = .ok (.iload 5, 2) := by decide +kernel
theorem dK1_fewestBelows_17 : decode cK1_fewestBelows 17 = .ok (.bipush 12, 2) := by decide +kernel
theorem dK1_fewestBelows_19 : decode cK1_fewestBelows 19 = .ok (.if_icmp .ge 39, 3) := by decide +kernel
theorem dK1_fewestBelows_22 : decode cK1_fewestBelows 22 = .ok (.aload_n 0, 1) := by decide +kernel
theorem dK1_fewestBelows_23 : decode cK1_fewestBelows 23 = .ok (.getfield 18, 3) := by decide +kernel
theorem dK1_fewestBelows_26 : decode cK1_fewestBelows 26 = .ok (.iload 5, 2) := by decide +kernel
theorem dK1_fewestBelows_28 : decode cK1_fewestBelows 28 = .ok (.iload 4, 2) := by decide +kernel
theorem dK1_fewestBelows_30 : decode cK1_fewestBelows 30 = .ok (.iastore, 1) := by decide +kernel
theorem dK1_fewestBelows_31 : decode cK1_fewestBelows 31 = .ok (.iload_n 3, 1) := by decide +kernel
theorem dK1_fewestBelows_32 : decode cK1_fewestBelows 32 = .ok (.iload 4, 2) := by decide +kernel
theorem dK1_fewestBelows_34 : decode cK1_fewestBelows 34 = .ok (.iand, 1) := by decide +kernel
theorem dK1_fewestBelows_35 : decode cK1_fewestBelows 35 = .ok (.ifCond .eq 6, 3) := by decide +kernel
theorem dK1_fewestBelows_38 : decode cK1_fewestBelows 38 = .ok (.iload 5, 2) := by decide +kernel
theorem dK1_fewestBelows_40 : decode cK1_fewestBelows 40 = .ok (.ireturn, 1) := by decide +kernel
theorem dK1_fewestBelows_41 : decode cK1_fewestBelows 41 = .ok (.iload 4, 2) := by decide +kernel
theorem dK1_fewestBelows_43 : decode cK1_fewestBelows 43 = .ok (.aload_n 0, 1) := by decide +kernel
theorem dK1_fewestBelows_44 : decode cK1_fewestBelows 44 = .ok (.iload 4, 2) := by decide +kernel
theorem dK1_fewestBelows_46 : decode cK1_fewestBelows 46 = .ok (.invokevirtual 59, 3) := by decide +kernel
theorem dK1_fewestBelows_49 : decode cK1_fewestBelows 49 = .ok (.ior, 1) := by decide +kernel
theorem dK1_fewestBelows_50 : decode cK1_fewestBelows 50 = .ok (.istore 4, 2) := by decide +kernel
theorem dK1_fewestBelows_52 : decode cK1_fewestBelows 52 = .ok (.iinc 5 1, 3) := by decide +kernel
theorem dK1_fewestBelows_55 : decode cK1_fewestBelows 55 = .ok (.goto (-40), 3) := by decide +kernel
theorem dK1_fewestBelows_58 : decode cK1_fewestBelows 58 = .ok (.iconst (-1), 1) := by decide +kernel
theorem dK1_fewestBelows_59 : decode cK1_fewestBelows 59 = .ok (.ireturn, 1) := by decide +kernel
theorem dK1_leadingInto_0 : decode cK1_leadingInto 0 = .ok (.iconst 0, 1) := by decide +kernel
theorem dK1_leadingInto_1 : decode cK1_leadingInto 1 = .ok (.istore_n 2, 1) := by decide +kernel
theorem dK1_leadingInto_2 : decode cK1_leadingInto 2 = .ok (.iconst 0, 1) := by decide +kernel
theorem dK1_leadingInto_3 : decode cK1_leadingInto 3 = .ok (.istore_n 3, 1) := by decide +kernel
theorem dK1_leadingInto_4 : decode cK1_leadingInto 4 = .ok (.iload_n 3, 1) := by decide +kernel
theorem dK1_leadingInto_5 : decode cK1_leadingInto 5 = .ok (.bipush 12, 2) := by decide +kernel
theorem dK1_leadingInto_7 : decode cK1_leadingInto 7 = .ok (.if_icmp .ge 26, 3) := by decide +kernel
theorem dK1_leadingInto_10 : decode cK1_leadingInto 10 = .ok (.aload_n 0, 1) := by decide +kernel
theorem dK1_leadingInto_11 : decode cK1_leadingInto 11 = .ok (.iload_n 3, 1) := by decide +kernel
theorem dK1_leadingInto_12 : decode cK1_leadingInto 12 = .ok (.iconst 1, 1) := by decide +kernel
theorem dK1_leadingInto_13 : decode cK1_leadingInto 13 = .ok (.invokevirtual 25, 3) := by decide +kernel
theorem dK1_leadingInto_16 : decode cK1_leadingInto 16 = .ok (.iload_n 1, 1) := by decide +kernel
theorem dK1_leadingInto_17 : decode cK1_leadingInto 17 = .ok (.iand, 1) := by decide +kernel
theorem dK1_leadingInto_18 : decode cK1_leadingInto 18 = .ok (.ifCond .eq 9, 3) := by decide +kernel
theorem dK1_leadingInto_21 : decode cK1_leadingInto 21 = .ok (.iload_n 2, 1) := by decide +kernel
theorem dK1_leadingInto_22 : decode cK1_leadingInto 22 = .ok (.iconst 1, 1) := by decide +kernel
theorem dK1_leadingInto_23 : decode cK1_leadingInto 23 = .ok (.iload_n 3, 1) := by decide +kernel
theorem dK1_leadingInto_24 : decode cK1_leadingInto 24 = .ok (.ishl, 1) := by decide +kernel
theorem dK1_leadingInto_25 : decode cK1_leadingInto 25 = .ok (.ior, 1) := by decide +kernel
theorem dK1_leadingInto_26 : decode cK1_leadingInto 26 = .ok (.istore_n 2, 1) := by decide +kernel
theorem dK1_leadingInto_27 : decode cK1_leadingInto 27 = .ok (.iinc 3 1, 3) := by decide +kernel
theorem dK1_leadingInto_30 : decode cK1_leadingInto 30 = .ok (.goto (-26), 3) := by decide +kernel
theorem dK1_leadingInto_33 : decode cK1_leadingInto 33 = .ok (.iload_n 2, 1) := by decide +kernel
theorem dK1_leadingInto_34 : decode cK1_leadingInto 34 = .ok (.ireturn, 1) := by decide +kernel
theorem dK0_change_0 : decode cK0_change 0 = .ok (.iload_n 2, 1) := by decide +kernel
theorem dK0_change_1 : decode cK0_change 1 = .ok (.iload_n 3, 1) := by decide +kernel
theorem dK0_change_2 : decode cK0_change 2 = .ok (.iload 4, 2) := by decide +kernel
theorem dK0_change_4 : decode cK0_change 4 = .ok (.invokestatic 104, 3) := by decide +kernel
theorem dK0_change_7 : decode cK0_change 7 = .ok (.ifCond .eq 16, 3) := by decide +kernel
theorem dK0_change_10 : decode cK0_change 10 = .ok (.iload 5, 2) := by decide +kernel
theorem dK0_change_12 : decode cK0_change 12 = .ok (.iconst 1, 1) := by decide +kernel
theorem dK0_change_13 : decode cK0_change 13 = .ok (.if_icmp .lt 10, 3) := by decide +kernel
theorem dK0_change_16 : decode cK0_change 16 = .ok (.iload 5, 2) := by decide +kernel
theorem dK0_change_18 : decode cK0_change 18 = .ok (.bipush 9, 2) := by decide +kernel
theorem dK0_change_20 : decode cK0_change 20 = .ok (.if_icmp .le 5, 3) := by decide +kernel
theorem dK0_change_23 : decode cK0_change 23 = .ok (.iconst (-1), 1) := by decide +kernel
theorem dK0_change_24 : decode cK0_change 24 = .ok (.ireturn, 1) := by decide +kernel
theorem dK0_change_25 : decode cK0_change 25 = .ok (.aload_n 0, 1) := by decide +kernel
theorem dK0_change_26 : decode cK0_change 26 = .ok (.getfield 29, 3) := by decide +kernel
theorem dK0_change_29 : decode cK0_change 29 = .ok (.iload_n 1, 1) := by decide +kernel
theorem dK0_change_30 : decode cK0_change 30 = .ok (.iload_n 2, 1) := by decide +kernel
theorem dK0_change_31 : decode cK0_change 31 = .ok (.iload_n 3, 1) := by decide +kernel
theorem dK0_change_32 : decode cK0_change 32 = .ok (.iload 4, 2) := by decide +kernel
theorem dK0_change_34 : decode cK0_change 34 = .ok (.invokestatic 108, 3) := by decide +kernel
theorem dK0_change_37 : decode cK0_change 37 = .ok (.iload 5, 2) := by decide +kernel
theorem dK0_change_39 : decode cK0_change 39 = .ok (.invokevirtual 111, 3) := by decide +kernel
theorem dK0_change_42 : decode cK0_change 42 = .ok (.ireturn, 1) := by decide +kernel
theorem dK3_add_0 : decode cK3_add 0 = .ok (.iconst 0, 1) := by decide +kernel
theorem dK3_add_1 : decode cK3_add 1 = .ok (.istore 4, 2) := by decide +kernel
theorem dK3_add_3 : decode cK3_add 3 = .ok (.iload 4, 2) := by decide +kernel
theorem dK3_add_5 : decode cK3_add 5 = .ok (.aload_n 0, 1) := by decide +kernel
theorem dK3_add_6 : decode cK3_add 6 = .ok (.getfield 22, 3) := by decide +kernel
theorem dK3_add_9 : decode cK3_add 9 = .ok (.if_icmp .ge 34, 3) := by decide +kernel
theorem dK3_add_12 : decode cK3_add 12 = .ok (.aload_n 0, 1) := by decide +kernel
theorem dK3_add_13 : decode cK3_add 13 = .ok (.getfield 9, 3) := by decide +kernel
theorem dK3_add_16 : decode cK3_add 16 = .ok (.iload 4, 2) := by decide +kernel
theorem dK3_add_18 : decode cK3_add 18 = .ok (.baload, 1) := by decide +kernel
theorem dK3_add_19 : decode cK3_add 19 = .ok (.iload_n 1, 1) := by decide +kernel
theorem dK3_add_20 : decode cK3_add 20 = .ok (.if_icmp .ne 17, 3) := by decide +kernel
theorem dK3_add_23 : decode cK3_add 23 = .ok (.aload_n 0, 1) := by decide +kernel
theorem dK3_add_24 : decode cK3_add 24 = .ok (.getfield 15, 3) := by decide +kernel
theorem dK3_add_27 : decode cK3_add 27 = .ok (.iload 4, 2) := by decide +kernel
theorem dK3_add_29 : decode cK3_add 29 = .ok (.iaload, 1) := by decide +kernel
theorem dK3_add_30 : decode cK3_add 30 = .ok (.iload_n 2, 1) := by decide +kernel
theorem dK3_add_31 : decode cK3_add 31 = .ok (.if_icmp .ne 6, 3) := by decide +kernel
theorem dK3_add_34 : decode cK3_add 34 = .ok (.bipush (-2), 2) := by decide +kernel
theorem dK3_add_36 : decode cK3_add 36 = .ok (.ireturn, 1) := by decide +kernel
theorem dK3_add_37 : decode cK3_add 37 = .ok (.iinc 4 1, 3) := by decide +kernel
theorem dK3_add_40 : decode cK3_add 40 = .ok (.goto (-37), 3) := by decide +kernel
theorem dK3_add_43 : decode cK3_add 43 = .ok (.aload_n 0, 1) := by decide +kernel
theorem dK3_add_44 : decode cK3_add 44 = .ok (.getfield 22, 3) := by decide +kernel
theorem dK3_add_47 : decode cK3_add 47 = .ok (.bipush 12, 2) := by decide +kernel
theorem dK3_add_49 : decode cK3_add 49 = .ok (.if_icmp .lt 6, 3) := by decide +kernel
theorem dK3_add_52 : decode cK3_add 52 = .ok (.bipush (-3), 2) := by decide +kernel
theorem dK3_add_54 : decode cK3_add 54 = .ok (.ireturn, 1) := by decide +kernel
theorem dK3_add_55 : decode cK3_add 55 = .ok (.aload_n 0, 1) := by decide +kernel
theorem dK3_add_56 : decode cK3_add 56 = .ok (.getfield 9, 3) := by decide +kernel
theorem dK3_add_59 : decode cK3_add 59 = .ok (.aload_n 0, 1) := by decide +kernel
theorem dK3_add_60 : decode cK3_add 60 = .ok (.getfield 22, 3) := by decide +kernel
theorem dK3_add_63 : decode cK3_add 63 = .ok (.iload_n 1, 1) := by decide +kernel
theorem dK3_add_64 : decode cK3_add 64 = .ok (.bastore, 1) := by decide +kernel
theorem dK3_add_65 : decode cK3_add 65 = .ok (.aload_n 0, 1) := by decide +kernel
theorem dK3_add_66 : decode cK3_add 66 = .ok (.getfield 15, 3) := by decide +kernel
theorem dK3_add_69 : decode cK3_add 69 = .ok (.aload_n 0, 1) := by decide +kernel
theorem dK3_add_70 : decode cK3_add 70 = .ok (.getfield 22, 3) := by decide +kernel
theorem dK3_add_73 : decode cK3_add 73 = .ok (.iload_n 2, 1) := by decide +kernel
theorem dK3_add_74 : decode cK3_add 74 = .ok (.iastore, 1) := by decide +kernel
theorem dK3_add_75 : decode cK3_add 75 = .ok (.aload_n 0, 1) := by decide +kernel
theorem dK3_add_76 : decode cK3_add 76 = .ok (.getfield 19, 3) := by decide +kernel
theorem dK3_add_79 : decode cK3_add 79 = .ok (.aload_n 0, 1) := by decide +kernel
theorem dK3_add_80 : decode cK3_add 80 = .ok (.getfield 22, 3) := by decide +kernel
theorem dK3_add_83 : decode cK3_add 83 = .ok (.iload_n 3, 1) := by decide +kernel
theorem dK3_add_84 : decode cK3_add 84 = .ok (.iastore, 1) := by decide +kernel
theorem dK3_add_85 : decode cK3_add 85 = .ok (.aload_n 0, 1) := by decide +kernel
theorem dK3_add_86 : decode cK3_add 86 = .ok (.dup, 1) := by decide +kernel
theorem dK3_add_87 : decode cK3_add 87 = .ok (.getfield 22, 3) := by decide +kernel
theorem dK3_add_90 : decode cK3_add 90 = .ok (.iconst 1, 1) := by decide +kernel
theorem dK3_add_91 : decode cK3_add 91 = .ok (.iadd, 1) := by decide +kernel
theorem dK3_add_92 : decode cK3_add 92 = .ok (.putfield 22, 3) := by decide +kernel
theorem dK3_add_95 : decode cK3_add 95 = .ok (.aload_n 0, 1) := by decide +kernel
theorem dK3_add_96 : decode cK3_add 96 = .ok (.getfield 22, 3) := by decide +kernel
theorem dK3_add_99 : decode cK3_add 99 = .ok (.iconst 1, 1) := by decide +kernel
theorem dK3_add_100 : decode cK3_add 100 = .ok (.isub, 1) := by decide +kernel
theorem dK3_add_101 : decode cK3_add 101 = .ok (.ireturn, 1) := by decide +kernel
theorem dK0_suggest_0 : decode cK0_suggest 0 = .ok (.aload_n 0, 1) := by decide +kernel
theorem dK0_suggest_1 : decode cK0_suggest 1 = .ok (.getfield 22, 3) := by decide +kernel
theorem dK0_suggest_4 : decode cK0_suggest 4 = .ok (.iload_n 1, 1) := by decide +kernel
theorem dK0_suggest_5 : decode cK0_suggest 5 = .ok (.invokevirtual 114, 3) := by decide +kernel
theorem dK0_suggest_8 : decode cK0_suggest 8 = .ok (.ifCond .eq 10, 3) := by decide +kernel
theorem dK0_suggest_11 : decode cK0_suggest 11 = .ok (.iload_n 2, 1) := by decide +kernel
theorem dK0_suggest_12 : decode cK0_suggest 12 = .ok (.invokestatic 65, 3) := by decide +kernel
theorem dK0_suggest_15 : decode cK0_suggest 15 = .ok (.ifCond .ne 5, 3) := by decide +kernel
theorem dK0_suggest_18 : decode cK0_suggest 18 = .ok (.iconst (-1), 1) := by decide +kernel
theorem dK0_suggest_19 : decode cK0_suggest 19 = .ok (.ireturn, 1) := by decide +kernel
theorem dK0_suggest_20 : decode cK0_suggest 20 = .ok (.aload_n 0, 1) := by decide +kernel
theorem dK0_suggest_21 : decode cK0_suggest 21 = .ok (.getfield 22, 3) := by decide +kernel
theorem dK0_suggest_24 : decode cK0_suggest 24 = .ok (.aload_n 0, 1) := by decide +kernel
theorem dK0_suggest_25 : decode cK0_suggest 25 = .ok (.getfield 12, 3) := by decide +kernel
theorem dK0_suggest_28 : decode cK0_suggest 28 = .ok (.iload_n 1, 1) := by decide +kernel
theorem dK0_suggest_29 : decode cK0_suggest 29 = .ok (.iload_n 2, 1) := by decide +kernel
theorem dK0_suggest_30 : decode cK0_suggest 30 = .ok (.invokevirtual 117, 3) := by decide +kernel
theorem dK0_suggest_33 : decode cK0_suggest 33 = .ok (.ifCond .ne 6, 3) := by decide +kernel
theorem dK0_suggest_36 : decode cK0_suggest 36 = .ok (.bipush (-2), 2) := by decide +kernel
theorem dK0_suggest_38 : decode cK0_suggest 38 = .ok (.ireturn, 1) := by decide +kernel
theorem dK0_suggest_39 : decode cK0_suggest 39 = .ok (.aload_n 0, 1) := by decide +kernel
theorem dK0_suggest_40 : decode cK0_suggest 40 = .ok (.getfield 29, 3) := by decide +kernel
theorem dK0_suggest_43 : decode cK0_suggest 43 = .ok (.getfield 121, 3) := by decide +kernel
theorem dK0_suggest_46 : decode cK0_suggest 46 = .ok (.istore_n 3, 1) := by decide +kernel
theorem dK0_suggest_47 : decode cK0_suggest 47 = .ok (.aload_n 0, 1) := by decide +kernel
theorem dK0_suggest_48 : decode cK0_suggest 48 = .ok (.getfield 22, 3) := by decide +kernel
theorem dK0_suggest_51 : decode cK0_suggest 51 = .ok (.getfield 122, 3) := by decide +kernel
theorem dK0_suggest_54 : decode cK0_suggest 54 = .ok (.iload_n 1, 1) := by decide +kernel
theorem dK0_suggest_55 : decode cK0_suggest 55 = .ok (.iaload, 1) := by decide +kernel
theorem dK0_suggest_56 : decode cK0_suggest 56 = .ok (.istore 4, 2) := by decide +kernel
theorem dK0_suggest_58 : decode cK0_suggest 58 = .ok (.aload_n 0, 1) := by decide +kernel
theorem dK0_suggest_59 : decode cK0_suggest 59 = .ok (.getfield 12, 3) := by decide +kernel
theorem dK0_suggest_62 : decode cK0_suggest 62 = .ok (.iload_n 2, 1) := by decide +kernel
theorem dK0_suggest_63 : decode cK0_suggest 63 = .ok (.iconst 0, 1) := by decide +kernel
theorem dK0_suggest_64 : decode cK0_suggest 64 = .ok (.iload 4, 2) := by decide +kernel
theorem dK0_suggest_66 : decode cK0_suggest 66 = .ok (.invokevirtual 126, 3) := by decide +kernel
theorem dK0_suggest_69 : decode cK0_suggest 69 = .ok (.ifCond .eq 12, 3) := by decide +kernel
theorem dK0_suggest_72 : decode cK0_suggest 72 = .ok (.aload_n 0, 1) := by decide +kernel
theorem dK0_suggest_73 : decode cK0_suggest 73 = .ok (.iconst 0, 1) := by decide +kernel
theorem dK0_suggest_74 : decode cK0_suggest 74 = .ok (.iload_n 2, 1) := by decide +kernel
theorem dK0_suggest_75 : decode cK0_suggest 75 = .ok (.iconst 0, 1) := by decide +kernel
theorem dK0_suggest_76 : decode cK0_suggest 76 = .ok (.iload 4, 2) := by decide +kernel
theorem dK0_suggest_78 : decode cK0_suggest 78 = .ok (.invokevirtual 128, 3) := by decide +kernel
theorem dK0_suggest_81 : decode cK0_suggest 81 = .ok (.iconst 0, 1) := by decide +kernel
theorem dK0_suggest_82 : decode cK0_suggest 82 = .ok (.istore 5, 2) := by decide +kernel
theorem dK0_suggest_84 : decode cK0_suggest 84 = .ok (.iload 5, 2) := by decide +kernel
theorem dK0_suggest_86 : decode cK0_suggest 86 = .ok (.bipush 12, 2) := by decide +kernel
theorem dK0_suggest_88 : decode cK0_suggest 88 = .ok (.if_icmp .ge 17, 3) := by decide +kernel
theorem dK0_suggest_91 : decode cK0_suggest 91 = .ok (.aload_n 0, 1) := by decide +kernel
theorem dK0_suggest_92 : decode cK0_suggest 92 = .ok (.iload_n 1, 1) := by decide +kernel
theorem dK0_suggest_93 : decode cK0_suggest 93 = .ok (.iload_n 2, 1) := by decide +kernel
theorem dK0_suggest_94 : decode cK0_suggest 94 = .ok (.iload 5, 2) := by decide +kernel
theorem dK0_suggest_96 : decode cK0_suggest 96 = .ok (.invokevirtual 132, 3) := by decide +kernel
theorem dK0_suggest_99 : decode cK0_suggest 99 = .ok (.iinc 5 1, 3) := by decide +kernel
theorem dK0_suggest_102 : decode cK0_suggest 102 = .ok (.goto (-18), 3) := by decide +kernel
theorem dK0_suggest_105 : decode cK0_suggest 105 = .ok (.aload_n 0, 1) := by decide +kernel
theorem dK0_suggest_106 : decode cK0_suggest 106 = .ok (.getfield 29, 3) := by decide +kernel
theorem dK0_suggest_109 : decode cK0_suggest 109 = .ok (.getfield 121, 3) := by decide +kernel
theorem dK0_suggest_112 : decode cK0_suggest 112 = .ok (.iload_n 3, 1) := by decide +kernel
theorem dK0_suggest_113 : decode cK0_suggest 113 = .ok (.isub, 1) := by decide +kernel
theorem dK0_suggest_114 : decode cK0_suggest 114 = .ok (.ireturn, 1) := by decide +kernel
theorem dK2_has_0 : decode cK2_has 0 = .ok (.iload_n 1, 1) := by decide +kernel
theorem dK2_has_1 : decode cK2_has 1 = .ok (.ifCond .lt 15, 3) := by decide +kernel
theorem dK2_has_4 : decode cK2_has 4 = .ok (.iload_n 1, 1) := by decide +kernel
theorem dK2_has_5 : decode cK2_has 5 = .ok (.aload_n 0, 1) := by decide +kernel
theorem dK2_has_6 : decode cK2_has 6 = .ok (.getfield 24, 3) := by decide +kernel
theorem dK2_has_9 : decode cK2_has 9 = .ok (.if_icmp .ge 7, 3) := by decide +kernel
theorem dK2_has_12 : decode cK2_has 12 = .ok (.iconst 1, 1) := by decide +kernel
theorem dK2_has_13 : decode cK2_has 13 = .ok (.goto 4, 3) := by decide +kernel
theorem dK2_has_16 : decode cK2_has 16 = .ok (.iconst 0, 1) := by decide +kernel
theorem dK2_has_17 : decode cK2_has 17 = .ok (.ireturn, 1) := by decide +kernel
theorem dK2_fails_0 : decode cK2_fails 0 = .ok (.aload_n 1, 1) := by decide +kernel
theorem dK2_fails_1 : decode cK2_fails 1 = .ok (.iload_n 3, 1) := by decide +kernel
theorem dK2_fails_2 : decode cK2_fails 2 = .ok (.aload_n 0, 1) := by decide +kernel
theorem dK2_fails_3 : decode cK2_fails 3 = .ok (.getfield 15, 3) := by decide +kernel
theorem dK2_fails_6 : decode cK2_fails 6 = .ok (.iload_n 2, 1) := by decide +kernel
theorem dK2_fails_7 : decode cK2_fails 7 = .ok (.iaload, 1) := by decide +kernel
theorem dK2_fails_8 : decode cK2_fails 8 = .ok (.invokevirtual 28, 3) := by decide +kernel
theorem dK2_fails_11 : decode cK2_fails 11 = .ok (.ifCond .eq 17, 3) := by decide +kernel
theorem dK2_fails_14 : decode cK2_fails 14 = .ok (.aload_n 0, 1) := by decide +kernel
theorem dK2_fails_15 : decode cK2_fails 15 = .ok (.aload_n 1, 1) := by decide +kernel
theorem dK2_fails_16 : decode cK2_fails 16 = .ok (.iload_n 2, 1) := by decide +kernel
theorem dK2_fails_17 : decode cK2_fails 17 = .ok (.iload_n 3, 1) := by decide +kernel
theorem dK2_fails_18 : decode cK2_fails 18 = .ok (.invokevirtual 34, 3) := by decide +kernel
theorem dK2_fails_21 : decode cK2_fails 21 = .ok (.ifCond .ne 7, 3) := by decide +kernel
theorem dK2_fails_24 : decode cK2_fails 24 = .ok (.iconst 1, 1) := by decide +kernel
theorem dK2_fails_25 : decode cK2_fails 25 = .ok (.goto 4, 3) := by decide +kernel
theorem dK2_fails_28 : decode cK2_fails 28 = .ok (.iconst 0, 1) := by decide +kernel
theorem dK2_fails_29 : decode cK2_fails 29 = .ok (.ireturn, 1) := by decide +kernel
theorem dK0_offer_0 : decode cK0_offer 0 = .ok (.aload_n 0, 1) := by decide +kernel
theorem dK0_offer_1 : decode cK0_offer 1 = .ok (.getfield 29, 3) := by decide +kernel
theorem dK0_offer_4 : decode cK0_offer 4 = .ok (.iload_n 1, 1) := by decide +kernel
theorem dK0_offer_5 : decode cK0_offer 5 = .ok (.iload_n 2, 1) := by decide +kernel
theorem dK0_offer_6 : decode cK0_offer 6 = .ok (.iload_n 3, 1) := by decide +kernel
theorem dK0_offer_7 : decode cK0_offer 7 = .ok (.iload 4, 2) := by decide +kernel
theorem dK0_offer_9 : decode cK0_offer 9 = .ok (.invokestatic 108, 3) := by decide +kernel
theorem dK0_offer_12 : decode cK0_offer 12 = .ok (.iconst 1, 1) := by decide +kernel
theorem dK0_offer_13 : decode cK0_offer 13 = .ok (.invokevirtual 111, 3) := by decide +kernel
theorem dK0_offer_16 : decode cK0_offer 16 = .ok (.pop, 1) := by decide +kernel
theorem dK0_offer_17 : decode cK0_offer 17 = .ok (.return_, 1) := by decide +kernel
theorem dK0_offerAbout_0 : decode cK0_offerAbout 0 = .ok (.aload_n 0, 1) := by decide +kernel
theorem dK0_offerAbout_1 : decode cK0_offerAbout 1 = .ok (.getfield 22, 3) := by decide +kernel
theorem dK0_offerAbout_4 : decode cK0_offerAbout 4 = .ok (.getfield 210, 3) := by decide +kernel
theorem dK0_offerAbout_7 : decode cK0_offerAbout 7 = .ok (.iload_n 1, 1) := by decide +kernel
theorem dK0_offerAbout_8 : decode cK0_offerAbout 8 = .ok (.iaload, 1) := by decide +kernel
theorem dK0_offerAbout_9 : decode cK0_offerAbout 9 = .ok (.istore 4, 2) := by decide +kernel
theorem dK0_offerAbout_11 : decode cK0_offerAbout 11 = .ok (.aload_n 0, 1) := by decide +kernel
theorem dK0_offerAbout_12 : decode cK0_offerAbout 12 = .ok (.getfield 22, 3) := by decide +kernel
theorem dK0_offerAbout_15 : decode cK0_offerAbout 15 = .ok (.getfield 213, 3) := by decide +kernel
theorem dK0_offerAbout_18 : decode cK0_offerAbout 18 = .ok (.iload_n 1, 1) := by decide +kernel
theorem dK0_offerAbout_19 : decode cK0_offerAbout 19 = .ok (.iaload, 1) := by decide +kernel
theorem dK0_offerAbout_20 : decode cK0_offerAbout 20 = .ok (.istore 5, 2) := by decide +kernel
theorem dK0_offerAbout_22 : decode cK0_offerAbout 22 = .ok (.aload_n 0, 1) := by decide +kernel
theorem dK0_offerAbout_23 : decode cK0_offerAbout 23 = .ok (.getfield 12, 3) := by decide +kernel
theorem dK0_offerAbout_26 : decode cK0_offerAbout 26 = .ok (.iload_n 2, 1) := by decide +kernel
theorem dK0_offerAbout_27 : decode cK0_offerAbout 27 = .ok (.iload 4, 2) := by decide +kernel
theorem dK0_offerAbout_29 : decode cK0_offerAbout 29 = .ok (.iload_n 3, 1) := by decide +kernel
theorem dK0_offerAbout_30 : decode cK0_offerAbout 30 = .ok (.invokevirtual 126, 3) := by decide +kernel
theorem dK0_offerAbout_33 : decode cK0_offerAbout 33 = .ok (.istore 6, 2) := by decide +kernel
theorem dK0_offerAbout_35 : decode cK0_offerAbout 35 = .ok (.aload_n 0, 1) := by decide +kernel
theorem dK0_offerAbout_36 : decode cK0_offerAbout 36 = .ok (.getfield 22, 3) := by decide +kernel
theorem dK0_offerAbout_39 : decode cK0_offerAbout 39 = .ok (.getfield 216, 3) := by decide +kernel
theorem dK0_offerAbout_42 : decode cK0_offerAbout 42 = .ok (.iload_n 1, 1) := by decide +kernel
theorem dK0_offerAbout_43 : decode cK0_offerAbout 43 = .ok (.iaload, 1) := by decide +kernel
theorem dK0_offerAbout_44 : decode cK0_offerAbout 44 = .ok (.tableswitch 179 0 4 #[36, 53, 70, 109, 132], 36) := by decide +kernel
theorem dK0_offerAbout_80 : decode cK0_offerAbout 80 = .ok (.iload 6, 2) := by decide +kernel
theorem dK0_offerAbout_82 : decode cK0_offerAbout 82 = .ok (.ifCond .ne 178, 3) := by decide +kernel
theorem dK0_offerAbout_85 : decode cK0_offerAbout 85 = .ok (.aload_n 0, 1) := by decide +kernel
theorem dK0_offerAbout_86 : decode cK0_offerAbout 86 = .ok (.iconst 1, 1) := by decide +kernel
theorem dK0_offerAbout_87 : decode cK0_offerAbout 87 = .ok (.iload_n 2, 1) := by decide +kernel
theorem dK0_offerAbout_88 : decode cK0_offerAbout 88 = .ok (.iload 4, 2) := by decide +kernel
theorem dK0_offerAbout_90 : decode cK0_offerAbout 90 = .ok (.iload_n 3, 1) := by decide +kernel
theorem dK0_offerAbout_91 : decode cK0_offerAbout 91 = .ok (.invokevirtual 128, 3) := by decide +kernel
theorem dK0_offerAbout_94 : decode cK0_offerAbout 94 = .ok (.goto 166, 3) := by decide +kernel
theorem dK0_offerAbout_97 : decode cK0_offerAbout 97 = .ok (.iload 6, 2) := by decide +kernel
theorem dK0_offerAbout_99 : decode cK0_offerAbout 99 = .ok (.ifCond .eq 161, 3) := by decide +kernel
theorem dK0_offerAbout_102 : decode cK0_offerAbout 102 = .ok (.aload_n 0, 1) := by decide +kernel
theorem dK0_offerAbout_103 : decode cK0_offerAbout 103 = .ok (.iconst 0, 1) := by decide +kernel
theorem dK0_offerAbout_104 : decode cK0_offerAbout 104 = .ok (.iload_n 2, 1) := by decide +kernel
theorem dK0_offerAbout_105 : decode cK0_offerAbout 105 = .ok (.iload 4, 2) := by decide +kernel
theorem dK0_offerAbout_107 : decode cK0_offerAbout 107 = .ok (.iload_n 3, 1) := by decide +kernel
theorem dK0_offerAbout_108 : decode cK0_offerAbout 108 = .ok (.invokevirtual 128, 3) := by decide +kernel
theorem dK0_offerAbout_111 : decode cK0_offerAbout 111 = .ok (.goto 149, 3) := by decide +kernel
theorem dK0_offerAbout_114 : decode cK0_offerAbout 114 = .ok (.iload 6, 2) := by decide +kernel
theorem dK0_offerAbout_116 : decode cK0_offerAbout 116 = .ok (.ifCond .eq 144, 3) := by decide +kernel
theorem dK0_offerAbout_119 : decode cK0_offerAbout 119 = .ok (.aload_n 0, 1) := by decide +kernel
theorem dK0_offerAbout_120 : decode cK0_offerAbout 120 = .ok (.getfield 12, 3) := by decide +kernel
theorem dK0_offerAbout_123 : decode cK0_offerAbout 123 = .ok (.iload_n 3, 1) := by decide +kernel
theorem dK0_offerAbout_124 : decode cK0_offerAbout 124 = .ok (.iload 5, 2) := by decide +kernel
theorem dK0_offerAbout_126 : decode cK0_offerAbout 126 = .ok (.invokevirtual 97, 3) := by decide +kernel
theorem dK0_offerAbout_129 : decode cK0_offerAbout 129 = .ok (.ifCond .ne 131, 3) := by decide +kernel
theorem dK0_offerAbout_132 : decode cK0_offerAbout 132 = .ok (.aload_n 0, 1) := by decide +kernel
theorem dK0_offerAbout_133 : decode cK0_offerAbout 133 = .ok (.iconst 0, 1) := by decide +kernel
theorem dK0_offerAbout_134 : decode cK0_offerAbout 134 = .ok (.iload_n 2, 1) := by decide +kernel
theorem dK0_offerAbout_135 : decode cK0_offerAbout 135 = .ok (.iload 4, 2) := by decide +kernel
theorem dK0_offerAbout_137 : decode cK0_offerAbout 137 = .ok (.iload_n 3, 1) := by decide +kernel
theorem dK0_offerAbout_138 : decode cK0_offerAbout 138 = .ok (.invokevirtual 128, 3) := by decide +kernel
theorem dK0_offerAbout_141 : decode cK0_offerAbout 141 = .ok (.aload_n 0, 1) := by decide +kernel
theorem dK0_offerAbout_142 : decode cK0_offerAbout 142 = .ok (.iconst 1, 1) := by decide +kernel
theorem dK0_offerAbout_143 : decode cK0_offerAbout 143 = .ok (.iload_n 3, 1) := by decide +kernel
theorem dK0_offerAbout_144 : decode cK0_offerAbout 144 = .ok (.iconst 0, 1) := by decide +kernel
theorem dK0_offerAbout_145 : decode cK0_offerAbout 145 = .ok (.iload 5, 2) := by decide +kernel
theorem dK0_offerAbout_147 : decode cK0_offerAbout 147 = .ok (.invokevirtual 128, 3) := by decide +kernel
theorem dK0_offerAbout_150 : decode cK0_offerAbout 150 = .ok (.goto 110, 3) := by decide +kernel
theorem dK0_offerAbout_153 : decode cK0_offerAbout 153 = .ok (.iload 6, 2) := by decide +kernel
theorem dK0_offerAbout_155 : decode cK0_offerAbout 155 = .ok (.ifCond .eq 105, 3) := by decide +kernel
theorem dK0_offerAbout_158 : decode cK0_offerAbout 158 = .ok (.iload_n 3, 1) := by decide +kernel
theorem dK0_offerAbout_159 : decode cK0_offerAbout 159 = .ok (.iload 5, 2) := by decide +kernel
theorem dK0_offerAbout_161 : decode cK0_offerAbout 161 = .ok (.if_icmp .ne 99, 3) := by decide +kernel
theorem dK0_offerAbout_164 : decode cK0_offerAbout 164 = .ok (.aload_n 0, 1) := by decide +kernel
theorem dK0_offerAbout_165 : decode cK0_offerAbout 165 = .ok (.iconst 0, 1) := by decide +kernel
theorem dK0_offerAbout_166 : decode cK0_offerAbout 166 = .ok (.iload_n 2, 1) := by decide +kernel
theorem dK0_offerAbout_167 : decode cK0_offerAbout 167 = .ok (.iload 4, 2) := by decide +kernel
theorem dK0_offerAbout_169 : decode cK0_offerAbout 169 = .ok (.iload_n 3, 1) := by decide +kernel
theorem dK0_offerAbout_170 : decode cK0_offerAbout 170 = .ok (.invokevirtual 128, 3) := by decide +kernel
theorem dK0_offerAbout_173 : decode cK0_offerAbout 173 = .ok (.goto 87, 3) := by decide +kernel
theorem dK0_offerAbout_176 : decode cK0_offerAbout 176 = .ok (.iload 6, 2) := by decide +kernel
theorem dK0_offerAbout_178 : decode cK0_offerAbout 178 = .ok (.aload_n 0, 1) := by decide +kernel
theorem dK0_offerAbout_179 : decode cK0_offerAbout 179 = .ok (.getfield 12, 3) := by decide +kernel
theorem dK0_offerAbout_182 : decode cK0_offerAbout 182 = .ok (.iload_n 2, 1) := by decide +kernel
theorem dK0_offerAbout_183 : decode cK0_offerAbout 183 = .ok (.iload 5, 2) := by decide +kernel
theorem dK0_offerAbout_185 : decode cK0_offerAbout 185 = .ok (.iload_n 3, 1) := by decide +kernel
theorem dK0_offerAbout_186 : decode cK0_offerAbout 186 = .ok (.invokevirtual 126, 3) := by decide +kernel
theorem dK0_offerAbout_189 : decode cK0_offerAbout 189 = .ok (.if_icmp .eq 71, 3) := by decide +kernel
theorem dK0_offerAbout_192 : decode cK0_offerAbout 192 = .ok (.aload_n 0, 1) := by decide +kernel
theorem dK0_offerAbout_193 : decode cK0_offerAbout 193 = .ok (.iload 6, 2) := by decide +kernel
theorem dK0_offerAbout_195 : decode cK0_offerAbout 195 = .ok (.ifCond .ne 7, 3) := by decide +kernel
theorem dK0_offerAbout_198 : decode cK0_offerAbout 198 = .ok (.iconst 1, 1) := by decide +kernel
theorem dK0_offerAbout_199 : decode cK0_offerAbout 199 = .ok (.goto 4, 3) := by decide +kernel
theorem dK0_offerAbout_202 : decode cK0_offerAbout 202 = .ok (.iconst 0, 1) := by decide +kernel
theorem dK0_offerAbout_203 : decode cK0_offerAbout 203 = .ok (.iload_n 2, 1) := by decide +kernel
theorem dK0_offerAbout_204 : decode cK0_offerAbout 204 = .ok (.iload 4, 2) := by decide +kernel
theorem dK0_offerAbout_206 : decode cK0_offerAbout 206 = .ok (.iload_n 3, 1) := by decide +kernel
theorem dK0_offerAbout_207 : decode cK0_offerAbout 207 = .ok (.invokevirtual 128, 3) := by decide +kernel
theorem dK0_offerAbout_210 : decode cK0_offerAbout 210 = .ok (.aload_n 0, 1) := by decide +kernel
theorem dK0_offerAbout_211 : decode cK0_offerAbout 211 = .ok (.iload 6, 2) := by decide +kernel
theorem dK0_offerAbout_213 : decode cK0_offerAbout 213 = .ok (.iload_n 2, 1) := by decide +kernel
theorem dK0_offerAbout_214 : decode cK0_offerAbout 214 = .ok (.iload 5, 2) := by decide +kernel
theorem dK0_offerAbout_216 : decode cK0_offerAbout 216 = .ok (.iload_n 3, 1) := by decide +kernel
theorem dK0_offerAbout_217 : decode cK0_offerAbout 217 = .ok (.invokevirtual 128, 3) := by decide +kernel
theorem dK0_offerAbout_220 : decode cK0_offerAbout 220 = .ok (.goto 40, 3) := by decide +kernel
theorem dK0_offerAbout_223 : decode cK0_offerAbout 223 = .ok (.iload 6, 2) := by decide +kernel
theorem dK0_offerAbout_225 : decode cK0_offerAbout 225 = .ok (.ifCond .eq 35, 3) := by decide +kernel
theorem dK0_offerAbout_228 : decode cK0_offerAbout 228 = .ok (.aload_n 0, 1) := by decide +kernel
theorem dK0_offerAbout_229 : decode cK0_offerAbout 229 = .ok (.getfield 12, 3) := by decide +kernel
theorem dK0_offerAbout_232 : decode cK0_offerAbout 232 = .ok (.iload_n 2, 1) := by decide +kernel
theorem dK0_offerAbout_233 : decode cK0_offerAbout 233 = .ok (.iload 5, 2) := by decide +kernel
theorem dK0_offerAbout_235 : decode cK0_offerAbout 235 = .ok (.iload_n 3, 1) := by decide +kernel
theorem dK0_offerAbout_236 : decode cK0_offerAbout 236 = .ok (.invokevirtual 126, 3) := by decide +kernel
theorem dK0_offerAbout_239 : decode cK0_offerAbout 239 = .ok (.ifCond .eq 21, 3) := by decide +kernel
theorem dK0_offerAbout_242 : decode cK0_offerAbout 242 = .ok (.aload_n 0, 1) := by decide +kernel
theorem dK0_offerAbout_243 : decode cK0_offerAbout 243 = .ok (.iconst 0, 1) := by decide +kernel
theorem dK0_offerAbout_244 : decode cK0_offerAbout 244 = .ok (.iload_n 2, 1) := by decide +kernel
theorem dK0_offerAbout_245 : decode cK0_offerAbout 245 = .ok (.iload 4, 2) := by decide +kernel
theorem dK0_offerAbout_247 : decode cK0_offerAbout 247 = .ok (.iload_n 3, 1) := by decide +kernel
theorem dK0_offerAbout_248 : decode cK0_offerAbout 248 = .ok (.invokevirtual 128, 3) := by decide +kernel
theorem dK0_offerAbout_251 : decode cK0_offerAbout 251 = .ok (.aload_n 0, 1) := by decide +kernel
theorem dK0_offerAbout_252 : decode cK0_offerAbout 252 = .ok (.iconst 0, 1) := by decide +kernel
theorem dK0_offerAbout_253 : decode cK0_offerAbout 253 = .ok (.iload_n 2, 1) := by decide +kernel
theorem dK0_offerAbout_254 : decode cK0_offerAbout 254 = .ok (.iload 5, 2) := by decide +kernel
theorem dK0_offerAbout_256 : decode cK0_offerAbout 256 = .ok (.iload_n 3, 1) := by decide +kernel
theorem dK0_offerAbout_257 : decode cK0_offerAbout 257 = .ok (.invokevirtual 128, 3) := by decide +kernel
theorem dK0_offerAbout_260 : decode cK0_offerAbout 260 = .ok (.return_, 1) := by decide +kernel
theorem dK0_clear_0 : decode cK0_clear 0 = .ok (.aload_n 0, 1) := by decide +kernel
theorem dK0_clear_1 : decode cK0_clear 1 = .ok (.getfield 29, 3) := by decide +kernel
theorem dK0_clear_4 : decode cK0_clear 4 = .ok (.getfield 121, 3) := by decide +kernel
theorem dK0_clear_7 : decode cK0_clear 7 = .ok (.istore_n 1, 1) := by decide +kernel
theorem dK0_clear_8 : decode cK0_clear 8 = .ok (.aload_n 0, 1) := by decide +kernel
theorem dK0_clear_9 : decode cK0_clear 9 = .ok (.getfield 29, 3) := by decide +kernel
theorem dK0_clear_12 : decode cK0_clear 12 = .ok (.invokevirtual 136, 3) := by decide +kernel
theorem dK0_clear_15 : decode cK0_clear 15 = .ok (.aload_n 0, 1) := by decide +kernel
theorem dK0_clear_16 : decode cK0_clear 16 = .ok (.getfield 36, 3) := by decide +kernel
theorem dK0_clear_19 : decode cK0_clear 19 = .ok (.invokevirtual 139, 3) := by decide +kernel
theorem dK0_clear_22 : decode cK0_clear 22 = .ok (.aload_n 0, 1) := by decide +kernel
theorem dK0_clear_23 : decode cK0_clear 23 = .ok (.iconst 0, 1) := by decide +kernel
theorem dK0_clear_24 : decode cK0_clear 24 = .ok (.putfield 47, 3) := by decide +kernel
theorem dK0_clear_27 : decode cK0_clear 27 = .ok (.iload_n 1, 1) := by decide +kernel
theorem dK0_clear_28 : decode cK0_clear 28 = .ok (.ireturn, 1) := by decide +kernel
theorem dK3_forget_0 : decode cK3_forget 0 = .ok (.aload_n 0, 1) := by decide +kernel
theorem dK3_forget_1 : decode cK3_forget 1 = .ok (.iconst 0, 1) := by decide +kernel
theorem dK3_forget_2 : decode cK3_forget 2 = .ok (.putfield 22, 3) := by decide +kernel
theorem dK3_forget_5 : decode cK3_forget 5 = .ok (.return_, 1) := by decide +kernel
theorem dK4_forget_0 : decode cK4_forget 0 = .ok (.aload_n 0, 1) := by decide +kernel
theorem dK4_forget_1 : decode cK4_forget 1 = .ok (.iconst 0, 1) := by decide +kernel
theorem dK4_forget_2 : decode cK4_forget 2 = .ok (.putfield 18, 3) := by decide +kernel
theorem dK4_forget_5 : decode cK4_forget 5 = .ok (.return_, 1) := by decide +kernel
theorem dK0_tries_0 : decode cK0_tries 0 = .ok (.iload_n 1, 1) := by decide +kernel
theorem dK0_tries_1 : decode cK0_tries 1 = .ok (.iconst 1, 1) := by decide +kernel
theorem dK0_tries_2 : decode cK0_tries 2 = .ok (.if_icmp .lt 10, 3) := by decide +kernel
theorem dK0_tries_5 : decode cK0_tries 5 = .ok (.iload_n 1, 1) := by decide +kernel
theorem dK0_tries_6 : decode cK0_tries 6 = .ok (.sipush 5000, 3) := by decide +kernel
theorem dK0_tries_9 : decode cK0_tries 9 = .ok (.if_icmp .le 5, 3) := by decide +kernel
theorem dK0_tries_12 : decode cK0_tries 12 = .ok (.iconst (-1), 1) := by decide +kernel
theorem dK0_tries_13 : decode cK0_tries 13 = .ok (.ireturn, 1) := by decide +kernel
theorem dK0_tries_14 : decode cK0_tries 14 = .ok (.aload_n 0, 1) := by decide +kernel
theorem dK0_tries_15 : decode cK0_tries 15 = .ok (.iload_n 1, 1) := by decide +kernel
theorem dK0_tries_16 : decode cK0_tries 16 = .ok (.putfield 51, 3) := by decide +kernel
theorem dK0_tries_19 : decode cK0_tries 19 = .ok (.iload_n 1, 1) := by decide +kernel
theorem dK0_tries_20 : decode cK0_tries 20 = .ok (.ireturn, 1) := by decide +kernel
theorem dK0_find_0 : decode cK0_find 0 = .ok (.aload_n 0, 1) := by decide +kernel
theorem dK0_find_1 : decode cK0_find 1 = .ok (.getfield 22, 3) := by decide +kernel
theorem dK0_find_4 : decode cK0_find 4 = .ok (.iload_n 1, 1) := by decide +kernel
theorem dK0_find_5 : decode cK0_find 5 = .ok (.invokevirtual 114, 3) := by decide +kernel
theorem dK0_find_8 : decode cK0_find 8 = .ok (.ifCond .eq 21, 3) := by decide +kernel
theorem dK0_find_11 : decode cK0_find 11 = .ok (.iload_n 2, 1) := by decide +kernel
theorem dK0_find_12 : decode cK0_find 12 = .ok (.invokestatic 65, 3) := by decide +kernel
theorem dK0_find_15 : decode cK0_find 15 = .ok (.ifCond .eq 14, 3) := by decide +kernel
theorem dK0_find_18 : decode cK0_find 18 = .ok (.iload_n 3, 1) := by decide +kernel
theorem dK0_find_19 : decode cK0_find 19 = .ok (.iconst 1, 1) := by decide +kernel
theorem dK0_find_20 : decode cK0_find 20 = .ok (.if_icmp .lt 9, 3) := by decide +kernel
theorem dK0_find_23 : decode cK0_find 23 = .ok (.iload_n 3, 1) := by decide +kernel
theorem dK0_find_24 : decode cK0_find 24 = .ok (.bipush 12, 2) := by decide +kernel
theorem dK0_find_26 : decode cK0_find 26 = .ok (.if_icmp .le 5, 3) := by decide +kernel
theorem dK0_find_29 : decode cK0_find 29 = .ok (.iconst (-1), 1) := by decide +kernel
theorem dK0_find_30 : decode cK0_find 30 = .ok (.ireturn, 1) := by decide +kernel
theorem dK0_find_31 : decode cK0_find 31 = .ok (.aload_n 0, 1) := by decide +kernel
theorem dK0_find_32 : decode cK0_find 32 = .ok (.getfield 22, 3) := by decide +kernel
theorem dK0_find_35 : decode cK0_find 35 = .ok (.aload_n 0, 1) := by decide +kernel
theorem dK0_find_36 : decode cK0_find 36 = .ok (.getfield 12, 3) := by decide +kernel
theorem dK0_find_39 : decode cK0_find 39 = .ok (.iload_n 1, 1) := by decide +kernel
theorem dK0_find_40 : decode cK0_find 40 = .ok (.iload_n 2, 1) := by decide +kernel
theorem dK0_find_41 : decode cK0_find 41 = .ok (.invokevirtual 117, 3) := by decide +kernel
theorem dK0_find_44 : decode cK0_find 44 = .ok (.ifCond .ne 6, 3) := by decide +kernel
theorem dK0_find_47 : decode cK0_find 47 = .ok (.bipush (-2), 2) := by decide +kernel
theorem dK0_find_49 : decode cK0_find 49 = .ok (.ireturn, 1) := by decide +kernel
theorem dK0_find_50 : decode cK0_find 50 = .ok (.aload_n 0, 1) := by decide +kernel
theorem dK0_find_51 : decode cK0_find 51 = .ok (.iload_n 1, 1) := by decide +kernel
theorem dK0_find_52 : decode cK0_find 52 = .ok (.iload_n 2, 1) := by decide +kernel
theorem dK0_find_53 : decode cK0_find 53 = .ok (.iload_n 3, 1) := by decide +kernel
theorem dK0_find_54 : decode cK0_find 54 = .ok (.aload_n 0, 1) := by decide +kernel
theorem dK0_find_55 : decode cK0_find 55 = .ok (.getfield 29, 3) := by decide +kernel
theorem dK0_find_58 : decode cK0_find 58 = .ok (.getfield 121, 3) := by decide +kernel
theorem dK0_find_61 : decode cK0_find 61 = .ok (.invokestatic 140, 3) := by decide +kernel
theorem dK0_find_64 : decode cK0_find 64 = .ok (.invokevirtual 146, 3) := by decide +kernel
theorem dK0_find_67 : decode cK0_find 67 = .ok (.aload_n 0, 1) := by decide +kernel
theorem dK0_find_68 : decode cK0_find 68 = .ok (.getfield 36, 3) := by decide +kernel
theorem dK0_find_71 : decode cK0_find 71 = .ok (.getfield 149, 3) := by decide +kernel
theorem dK0_find_74 : decode cK0_find 74 = .ok (.ireturn, 1) := by decide +kernel
theorem dK0_findSets_0 : decode cK0_findSets 0 = .ok (.aload_n 0, 1) := by decide +kernel
theorem dK0_findSets_1 : decode cK0_findSets 1 = .ok (.getfield 36, 3) := by decide +kernel
theorem dK0_findSets_4 : decode cK0_findSets 4 = .ok (.invokevirtual 139, 3) := by decide +kernel
theorem dK0_findSets_7 : decode cK0_findSets 7 = .ok (.aload_n 0, 1) := by decide +kernel
theorem dK0_findSets_8 : decode cK0_findSets 8 = .ok (.iconst 0, 1) := by decide +kernel
theorem dK0_findSets_9 : decode cK0_findSets 9 = .ok (.putfield 54, 3) := by decide +kernel
theorem dK0_findSets_12 : decode cK0_findSets 12 = .ok (.aload_n 0, 1) := by decide +kernel
theorem dK0_findSets_13 : decode cK0_findSets 13 = .ok (.iconst 0, 1) := by decide +kernel
theorem dK0_findSets_14 : decode cK0_findSets 14 = .ok (.putfield 57, 3) := by decide +kernel
theorem dK0_findSets_17 : decode cK0_findSets 17 = .ok (.iconst 0, 1) := by decide +kernel
theorem dK0_findSets_18 : decode cK0_findSets 18 = .ok (.aload_n 0, 1) := by decide +kernel
theorem dK0_findSets_19 : decode cK0_findSets 19 = .ok (.getfield 29, 3) := by decide +kernel
theorem dK0_findSets_22 : decode cK0_findSets 22 = .ok (.getfield 121, 3) := by decide +kernel
theorem dK0_findSets_25 : decode cK0_findSets 25 = .ok (.iload_n 3, 1) := by decide +kernel
theorem dK0_findSets_26 : decode cK0_findSets 26 = .ok (.invokestatic 223, 3) := by decide +kernel
theorem dK0_findSets_29 : decode cK0_findSets 29 = .ok (.istore 4, 2) := by decide +kernel
theorem dK0_findSets_31 : decode cK0_findSets 31 = .ok (.iconst 0, 1) := by decide +kernel
theorem dK0_findSets_32 : decode cK0_findSets 32 = .ok (.istore 5, 2) := by decide +kernel
theorem dK0_findSets_34 : decode cK0_findSets 34 = .ok (.iload 5, 2) := by decide +kernel
theorem dK0_findSets_36 : decode cK0_findSets 36 = .ok (.sipush 4096, 3) := by decide +kernel
theorem dK0_findSets_39 : decode cK0_findSets 39 = .ok (.if_icmp .ge 117, 3) := by decide +kernel
theorem dK0_findSets_42 : decode cK0_findSets 42 = .ok (.iload 4, 2) := by decide +kernel
theorem dK0_findSets_44 : decode cK0_findSets 44 = .ok (.iconst (-1), 1) := by decide +kernel
theorem dK0_findSets_45 : decode cK0_findSets 45 = .ok (.if_icmp .eq 111, 3) := by decide +kernel
theorem dK0_findSets_48 : decode cK0_findSets 48 = .ok (.aload_n 0, 1) := by decide +kernel
theorem dK0_findSets_49 : decode cK0_findSets 49 = .ok (.getfield 36, 3) := by decide +kernel
theorem dK0_findSets_52 : decode cK0_findSets 52 = .ok (.iload 4, 2) := by decide +kernel
theorem dK0_findSets_54 : decode cK0_findSets 54 = .ok (.invokevirtual 226, 3) := by decide +kernel
theorem dK0_findSets_57 : decode cK0_findSets 57 = .ok (.ifCond .ne 78, 3) := by decide +kernel
theorem dK0_findSets_60 : decode cK0_findSets 60 = .ok (.aload_n 0, 1) := by decide +kernel
theorem dK0_findSets_61 : decode cK0_findSets 61 = .ok (.getfield 54, 3) := by decide +kernel
theorem dK0_findSets_64 : decode cK0_findSets 64 = .ok (.aload_n 0, 1) := by decide +kernel
theorem dK0_findSets_65 : decode cK0_findSets 65 = .ok (.getfield 51, 3) := by decide +kernel
theorem dK0_findSets_68 : decode cK0_findSets 68 = .ok (.if_icmp .lt 4, 3) := by decide +kernel
theorem dK0_findSets_71 : decode cK0_findSets 71 = .ok (.return_, 1) := by decide +kernel
theorem dK0_findSets_72 : decode cK0_findSets 72 = .ok (.aload_n 0, 1) := by decide +kernel
theorem dK0_findSets_73 : decode cK0_findSets 73 = .ok (.dup, 1) := by decide +kernel
theorem dK0_findSets_74 : decode cK0_findSets 74 = .ok (.getfield 54, 3) := by decide +kernel
theorem dK0_findSets_77 : decode cK0_findSets 77 = .ok (.iconst 1, 1) := by decide +kernel
theorem dK0_findSets_78 : decode cK0_findSets 78 = .ok (.iadd, 1) := by decide +kernel
theorem dK0_findSets_79 : decode cK0_findSets 79 = .ok (.putfield 54, 3) := by decide +kernel
theorem dK0_findSets_82 : decode cK0_findSets 82 = .ok (.aload_n 0, 1) := by decide +kernel
theorem dK0_findSets_83 : decode cK0_findSets 83 = .ok (.iload 4, 2) := by decide +kernel
theorem dK0_findSets_85 : decode cK0_findSets 85 = .ok (.invokevirtual 159, 3) := by decide +kernel
theorem dK0_findSets_88 : decode cK0_findSets 88 = .ok (.aload_n 0, 1) := by decide +kernel
theorem dK0_findSets_89 : decode cK0_findSets 89 = .ok (.getfield 22, 3) := by decide +kernel
theorem dK0_findSets_92 : decode cK0_findSets 92 = .ok (.aload_n 0, 1) := by decide +kernel
theorem dK0_findSets_93 : decode cK0_findSets 93 = .ok (.getfield 16, 3) := by decide +kernel
theorem dK0_findSets_96 : decode cK0_findSets 96 = .ok (.iload_n 1, 1) := by decide +kernel
theorem dK0_findSets_97 : decode cK0_findSets 97 = .ok (.iload_n 2, 1) := by decide +kernel
theorem dK0_findSets_98 : decode cK0_findSets 98 = .ok (.invokevirtual 117, 3) := by decide +kernel
theorem dK0_findSets_101 : decode cK0_findSets 101 = .ok (.ifCond .ne 21, 3) := by decide +kernel
theorem dK0_findSets_104 : decode cK0_findSets 104 = .ok (.aload_n 0, 1) := by decide +kernel
theorem dK0_findSets_105 : decode cK0_findSets 105 = .ok (.getfield 36, 3) := by decide +kernel
theorem dK0_findSets_108 : decode cK0_findSets 108 = .ok (.iload 4, 2) := by decide +kernel
theorem dK0_findSets_110 : decode cK0_findSets 110 = .ok (.aload_n 0, 1) := by decide +kernel
theorem dK0_findSets_111 : decode cK0_findSets 111 = .ok (.getfield 29, 3) := by decide +kernel
theorem dK0_findSets_114 : decode cK0_findSets 114 = .ok (.iload 4, 2) := by decide +kernel
theorem dK0_findSets_116 : decode cK0_findSets 116 = .ok (.invokevirtual 156, 3) := by decide +kernel
theorem dK0_findSets_119 : decode cK0_findSets 119 = .ok (.invokevirtual 229, 3) := by decide +kernel
theorem dK0_findSets_122 : decode cK0_findSets 122 = .ok (.aload_n 0, 1) := by decide +kernel
theorem dK0_findSets_123 : decode cK0_findSets 123 = .ok (.getfield 36, 3) := by decide +kernel
theorem dK0_findSets_126 : decode cK0_findSets 126 = .ok (.getfield 149, 3) := by decide +kernel
theorem dK0_findSets_129 : decode cK0_findSets 129 = .ok (.bipush 30, 2) := by decide +kernel
theorem dK0_findSets_131 : decode cK0_findSets 131 = .ok (.if_icmp .lt 4, 3) := by decide +kernel
theorem dK0_findSets_134 : decode cK0_findSets 134 = .ok (.return_, 1) := by decide +kernel
theorem dK0_findSets_135 : decode cK0_findSets 135 = .ok (.iload 4, 2) := by decide +kernel
theorem dK0_findSets_137 : decode cK0_findSets 137 = .ok (.aload_n 0, 1) := by decide +kernel
theorem dK0_findSets_138 : decode cK0_findSets 138 = .ok (.getfield 29, 3) := by decide +kernel
theorem dK0_findSets_141 : decode cK0_findSets 141 = .ok (.getfield 121, 3) := by decide +kernel
theorem dK0_findSets_144 : decode cK0_findSets 144 = .ok (.iload_n 3, 1) := by decide +kernel
theorem dK0_findSets_145 : decode cK0_findSets 145 = .ok (.invokestatic 223, 3) := by decide +kernel
theorem dK0_findSets_148 : decode cK0_findSets 148 = .ok (.istore 4, 2) := by decide +kernel
theorem dK0_findSets_150 : decode cK0_findSets 150 = .ok (.iinc 5 1, 3) := by decide +kernel
theorem dK0_findSets_153 : decode cK0_findSets 153 = .ok (.goto (-119), 3) := by decide +kernel
theorem dK0_findSets_156 : decode cK0_findSets 156 = .ok (.aload_n 0, 1) := by decide +kernel
theorem dK0_findSets_157 : decode cK0_findSets 157 = .ok (.iconst 1, 1) := by decide +kernel
theorem dK0_findSets_158 : decode cK0_findSets 158 = .ok (.putfield 57, 3) := by decide +kernel
theorem dK0_findSets_161 : decode cK0_findSets 161 = .ok (.return_, 1) := by decide +kernel
theorem dK0_nextSet_0 : decode cK0_nextSet 0 = .ok (.iconst 0, 1) := by decide +kernel
theorem dK0_nextSet_1 : decode cK0_nextSet 1 = .ok (.istore_n 3, 1) := by decide +kernel
theorem dK0_nextSet_2 : decode cK0_nextSet 2 = .ok (.iload_n 3, 1) := by decide +kernel
theorem dK0_nextSet_3 : decode cK0_nextSet 3 = .ok (.iload_n 1, 1) := by decide +kernel
theorem dK0_nextSet_4 : decode cK0_nextSet 4 = .ok (.if_icmp .ge 21, 3) := by decide +kernel
theorem dK0_nextSet_7 : decode cK0_nextSet 7 = .ok (.iload_n 0, 1) := by decide +kernel
theorem dK0_nextSet_8 : decode cK0_nextSet 8 = .ok (.iload_n 1, 1) := by decide +kernel
theorem dK0_nextSet_9 : decode cK0_nextSet 9 = .ok (.iconst 1, 1) := by decide +kernel
theorem dK0_nextSet_10 : decode cK0_nextSet 10 = .ok (.isub, 1) := by decide +kernel
theorem dK0_nextSet_11 : decode cK0_nextSet 11 = .ok (.iload_n 3, 1) := by decide +kernel
theorem dK0_nextSet_12 : decode cK0_nextSet 12 = .ok (.isub, 1) := by decide +kernel
theorem dK0_nextSet_13 : decode cK0_nextSet 13 = .ok (.invokestatic 180, 3) := by decide +kernel
theorem dK0_nextSet_16 : decode cK0_nextSet 16 = .ok (.ifCond .eq 9, 3) := by decide +kernel
theorem dK0_nextSet_19 : decode cK0_nextSet 19 = .ok (.iinc 3 1, 3) := by decide +kernel
theorem dK0_nextSet_22 : decode cK0_nextSet 22 = .ok (.goto (-20), 3) := by decide +kernel
theorem dK0_nextSet_25 : decode cK0_nextSet 25 = .ok (.iload_n 0, 1) := by decide +kernel
theorem dK0_nextSet_26 : decode cK0_nextSet 26 = .ok (.iconst 1, 1) := by decide +kernel
theorem dK0_nextSet_27 : decode cK0_nextSet 27 = .ok (.iload_n 1, 1) := by decide +kernel
theorem dK0_nextSet_28 : decode cK0_nextSet 28 = .ok (.iload_n 3, 1) := by decide +kernel
theorem dK0_nextSet_29 : decode cK0_nextSet 29 = .ok (.isub, 1) := by decide +kernel
theorem dK0_nextSet_30 : decode cK0_nextSet 30 = .ok (.ishl, 1) := by decide +kernel
theorem dK0_nextSet_31 : decode cK0_nextSet 31 = .ok (.iconst 1, 1) := by decide +kernel
theorem dK0_nextSet_32 : decode cK0_nextSet 32 = .ok (.isub, 1) := by decide +kernel
theorem dK0_nextSet_33 : decode cK0_nextSet 33 = .ok (.iand, 1) := by decide +kernel
theorem dK0_nextSet_34 : decode cK0_nextSet 34 = .ok (.istore 4, 2) := by decide +kernel
theorem dK0_nextSet_36 : decode cK0_nextSet 36 = .ok (.iload 4, 2) := by decide +kernel
theorem dK0_nextSet_38 : decode cK0_nextSet 38 = .ok (.ifCond .ne 20, 3) := by decide +kernel
theorem dK0_nextSet_41 : decode cK0_nextSet 41 = .ok (.iload_n 3, 1) := by decide +kernel
theorem dK0_nextSet_42 : decode cK0_nextSet 42 = .ok (.iload_n 2, 1) := by decide +kernel
theorem dK0_nextSet_43 : decode cK0_nextSet 43 = .ok (.if_icmp .ge 13, 3) := by decide +kernel
theorem dK0_nextSet_46 : decode cK0_nextSet 46 = .ok (.iconst 1, 1) := by decide +kernel
theorem dK0_nextSet_47 : decode cK0_nextSet 47 = .ok (.iload_n 3, 1) := by decide +kernel
theorem dK0_nextSet_48 : decode cK0_nextSet 48 = .ok (.iconst 1, 1) := by decide +kernel
theorem dK0_nextSet_49 : decode cK0_nextSet 49 = .ok (.iadd, 1) := by decide +kernel
theorem dK0_nextSet_50 : decode cK0_nextSet 50 = .ok (.ishl, 1) := by decide +kernel
theorem dK0_nextSet_51 : decode cK0_nextSet 51 = .ok (.iconst 1, 1) := by decide +kernel
theorem dK0_nextSet_52 : decode cK0_nextSet 52 = .ok (.isub, 1) := by decide +kernel
theorem dK0_nextSet_53 : decode cK0_nextSet 53 = .ok (.goto 4, 3) := by decide +kernel
theorem dK0_nextSet_56 : decode cK0_nextSet 56 = .ok (.iconst (-1), 1) := by decide +kernel
theorem dK0_nextSet_57 : decode cK0_nextSet 57 = .ok (.ireturn, 1) := by decide +kernel
theorem dK0_nextSet_58 : decode cK0_nextSet 58 = .ok (.bipush 31, 2) := by decide +kernel
theorem dK0_nextSet_60 : decode cK0_nextSet 60 = .ok (.iload 4, 2) := by decide +kernel
theorem dK0_nextSet_62 : decode cK0_nextSet 62 = .ok (.invokestatic 203, 3) := by decide +kernel
theorem dK0_nextSet_65 : decode cK0_nextSet 65 = .ok (.isub, 1) := by decide +kernel
theorem dK0_nextSet_66 : decode cK0_nextSet 66 = .ok (.istore 5, 2) := by decide +kernel
theorem dK0_nextSet_68 : decode cK0_nextSet 68 = .ok (.iconst 1, 1) := by decide +kernel
theorem dK0_nextSet_69 : decode cK0_nextSet 69 = .ok (.iload_n 3, 1) := by decide +kernel
theorem dK0_nextSet_70 : decode cK0_nextSet 70 = .ok (.iconst 1, 1) := by decide +kernel
