theorem dK0_nextSet_71 : decode cK0_nextSet 71 = .ok (.iadd, 1) := by decide +kernel
theorem dK0_nextSet_72 : decode cK0_nextSet 72 = .ok (.ishl, 1) := by decide +kernel
theorem dK0_nextSet_73 : decode cK0_nextSet 73 = .ok (.iconst 1, 1) := by decide +kernel
theorem dK0_nextSet_74 : decode cK0_nextSet 74 = .ok (.isub, 1) := by decide +kernel
theorem dK0_nextSet_75 : decode cK0_nextSet 75 = .ok (.iload 5, 2) := by decide +kernel
theorem dK0_nextSet_77 : decode cK0_nextSet 77 = .ok (.iconst 1, 1) := by decide +kernel
theorem dK0_nextSet_78 : decode cK0_nextSet 78 = .ok (.iadd, 1) := by decide +kernel
theorem dK0_nextSet_79 : decode cK0_nextSet 79 = .ok (.ishl, 1) := by decide +kernel
theorem dK0_nextSet_80 : decode cK0_nextSet 80 = .ok (.istore 6, 2) := by decide +kernel
theorem dK0_nextSet_82 : decode cK0_nextSet 82 = .ok (.iload 4, 2) := by decide +kernel
theorem dK0_nextSet_84 : decode cK0_nextSet 84 = .ok (.iconst 1, 1) := by decide +kernel
theorem dK0_nextSet_85 : decode cK0_nextSet 85 = .ok (.iload 5, 2) := by decide +kernel
theorem dK0_nextSet_87 : decode cK0_nextSet 87 = .ok (.ishl, 1) := by decide +kernel
theorem dK0_nextSet_88 : decode cK0_nextSet 88 = .ok (.iconst (-1), 1) := by decide +kernel
theorem dK0_nextSet_89 : decode cK0_nextSet 89 = .ok (.ixor, 1) := by decide +kernel
theorem dK0_nextSet_90 : decode cK0_nextSet 90 = .ok (.iand, 1) := by decide +kernel
theorem dK0_nextSet_91 : decode cK0_nextSet 91 = .ok (.iload 6, 2) := by decide +kernel
theorem dK0_nextSet_93 : decode cK0_nextSet 93 = .ok (.ior, 1) := by decide +kernel
theorem dK0_nextSet_94 : decode cK0_nextSet 94 = .ok (.ireturn, 1) := by decide +kernel
theorem dJ2_numberOfLeadingZeros_0 : decode cJ2_numberOfLeadingZeros 0 = .ok (.iload_n 0, 1) := by decide +kernel
theorem dJ2_numberOfLeadingZeros_1 : decode cJ2_numberOfLeadingZeros 1 = .ok (.ifCond .gt 14, 3) := by decide +kernel
theorem dJ2_numberOfLeadingZeros_4 : decode cJ2_numberOfLeadingZeros 4 = .ok (.iload_n 0, 1) := by decide +kernel
theorem dJ2_numberOfLeadingZeros_5 : decode cJ2_numberOfLeadingZeros 5 = .ok (.ifCond .ne 8, 3) := by decide +kernel
theorem dJ2_numberOfLeadingZeros_8 : decode cJ2_numberOfLeadingZeros 8 = .ok (.bipush 32, 2) := by decide +kernel
theorem dJ2_numberOfLeadingZeros_10 : decode cJ2_numberOfLeadingZeros 10 = .ok (.goto 4, 3) := by decide +kernel
theorem dJ2_numberOfLeadingZeros_13 : decode cJ2_numberOfLeadingZeros 13 = .ok (.iconst 0, 1) := by decide +kernel
theorem dJ2_numberOfLeadingZeros_14 : decode cJ2_numberOfLeadingZeros 14 = .ok (.ireturn, 1) := by decide +kernel
theorem dJ2_numberOfLeadingZeros_15 : decode cJ2_numberOfLeadingZeros 15 = .ok (.bipush 31, 2) := by decide +kernel
theorem dJ2_numberOfLeadingZeros_17 : decode cJ2_numberOfLeadingZeros 17 = .ok (.istore_n 1, 1) := by decide +kernel
theorem dJ2_numberOfLeadingZeros_18 : decode cJ2_numberOfLeadingZeros 18 = .ok (.iload_n 0, 1) := by decide +kernel
theorem dJ2_numberOfLeadingZeros_19 : decode cJ2_numberOfLeadingZeros 19 = .ok (.ldc_w 264, 3) := by decide +kernel
theorem dJ2_numberOfLeadingZeros_22 : decode cJ2_numberOfLeadingZeros 22 = .ok (.if_icmp .lt 11, 3) := by decide +kernel
theorem dJ2_numberOfLeadingZeros_25 : decode cJ2_numberOfLeadingZeros 25 = .ok (.iinc 1 (-16), 3) := by decide +kernel
theorem dJ2_numberOfLeadingZeros_28 : decode cJ2_numberOfLeadingZeros 28 = .ok (.iload_n 0, 1) := by decide +kernel
theorem dJ2_numberOfLeadingZeros_29 : decode cJ2_numberOfLeadingZeros 29 = .ok (.bipush 16, 2) := by decide +kernel
theorem dJ2_numberOfLeadingZeros_31 : decode cJ2_numberOfLeadingZeros 31 = .ok (.iushr, 1) := by decide +kernel
theorem dJ2_numberOfLeadingZeros_32 : decode cJ2_numberOfLeadingZeros 32 = .ok (.istore_n 0, 1) := by decide +kernel
theorem dJ2_numberOfLeadingZeros_33 : decode cJ2_numberOfLeadingZeros 33 = .ok (.iload_n 0, 1) := by decide +kernel
theorem dJ2_numberOfLeadingZeros_34 : decode cJ2_numberOfLeadingZeros 34 = .ok (.sipush 256, 3) := by decide +kernel
theorem dJ2_numberOfLeadingZeros_37 : decode cJ2_numberOfLeadingZeros 37 = .ok (.if_icmp .lt 11, 3) := by decide +kernel
theorem dJ2_numberOfLeadingZeros_40 : decode cJ2_numberOfLeadingZeros 40 = .ok (.iinc 1 (-8), 3) := by decide +kernel
theorem dJ2_numberOfLeadingZeros_43 : decode cJ2_numberOfLeadingZeros 43 = .ok (.iload_n 0, 1) := by decide +kernel
theorem dJ2_numberOfLeadingZeros_44 : decode cJ2_numberOfLeadingZeros 44 = .ok (.bipush 8, 2) := by decide +kernel
theorem dJ2_numberOfLeadingZeros_46 : decode cJ2_numberOfLeadingZeros 46 = .ok (.iushr, 1) := by decide +kernel
theorem dJ2_numberOfLeadingZeros_47 : decode cJ2_numberOfLeadingZeros 47 = .ok (.istore_n 0, 1) := by decide +kernel
theorem dJ2_numberOfLeadingZeros_48 : decode cJ2_numberOfLeadingZeros 48 = .ok (.iload_n 0, 1) := by decide +kernel
theorem dJ2_numberOfLeadingZeros_49 : decode cJ2_numberOfLeadingZeros 49 = .ok (.bipush 16, 2) := by decide +kernel
theorem dJ2_numberOfLeadingZeros_51 : decode cJ2_numberOfLeadingZeros 51 = .ok (.if_icmp .lt 10, 3) := by decide +kernel
theorem dJ2_numberOfLeadingZeros_54 : decode cJ2_numberOfLeadingZeros 54 = .ok (.iinc 1 (-4), 3) := by decide +kernel
theorem dJ2_numberOfLeadingZeros_57 : decode cJ2_numberOfLeadingZeros 57 = .ok (.iload_n 0, 1) := by decide +kernel
theorem dJ2_numberOfLeadingZeros_58 : decode cJ2_numberOfLeadingZeros 58 = .ok (.iconst 4, 1) := by decide +kernel
theorem dJ2_numberOfLeadingZeros_59 : decode cJ2_numberOfLeadingZeros 59 = .ok (.iushr, 1) := by decide +kernel
theorem dJ2_numberOfLeadingZeros_60 : decode cJ2_numberOfLeadingZeros 60 = .ok (.istore_n 0, 1) := by decide +kernel
theorem dJ2_numberOfLeadingZeros_61 : decode cJ2_numberOfLeadingZeros 61 = .ok (.iload_n 0, 1) := by decide +kernel
theorem dJ2_numberOfLeadingZeros_62 : decode cJ2_numberOfLeadingZeros 62 = .ok (.iconst 4, 1) := by decide +kernel
theorem dJ2_numberOfLeadingZeros_63 : decode cJ2_numberOfLeadingZeros 63 = .ok (.if_icmp .lt 10, 3) := by decide +kernel
theorem dJ2_numberOfLeadingZeros_66 : decode cJ2_numberOfLeadingZeros 66 = .ok (.iinc 1 (-2), 3) := by decide +kernel
theorem dJ2_numberOfLeadingZeros_69 : decode cJ2_numberOfLeadingZeros 69 = .ok (.iload_n 0, 1) := by decide +kernel
theorem dJ2_numberOfLeadingZeros_70 : decode cJ2_numberOfLeadingZeros 70 = .ok (.iconst 2, 1) := by decide +kernel
theorem dJ2_numberOfLeadingZeros_71 : decode cJ2_numberOfLeadingZeros 71 = .ok (.iushr, 1) := by decide +kernel
theorem dJ2_numberOfLeadingZeros_72 : decode cJ2_numberOfLeadingZeros 72 = .ok (.istore_n 0, 1) := by decide +kernel
theorem dJ2_numberOfLeadingZeros_73 : decode cJ2_numberOfLeadingZeros 73 = .ok (.iload_n 1, 1) := by decide +kernel
theorem dJ2_numberOfLeadingZeros_74 : decode cJ2_numberOfLeadingZeros 74 = .ok (.iload_n 0, 1) := by decide +kernel
theorem dJ2_numberOfLeadingZeros_75 : decode cJ2_numberOfLeadingZeros 75 = .ok (.iconst 1, 1) := by decide +kernel
theorem dJ2_numberOfLeadingZeros_76 : decode cJ2_numberOfLeadingZeros 76 = .ok (.iushr, 1) := by decide +kernel
theorem dJ2_numberOfLeadingZeros_77 : decode cJ2_numberOfLeadingZeros 77 = .ok (.isub, 1) := by decide +kernel
theorem dJ2_numberOfLeadingZeros_78 : decode cJ2_numberOfLeadingZeros 78 = .ok (.ireturn, 1) := by decide +kernel
theorem dK4_hasPartOf_0 : decode cK4_hasPartOf 0 = .ok (.iconst 0, 1) := by decide +kernel
theorem dK4_hasPartOf_1 : decode cK4_hasPartOf 1 = .ok (.istore_n 2, 1) := by decide +kernel
theorem dK4_hasPartOf_2 : decode cK4_hasPartOf 2 = .ok (.iload_n 2, 1) := by decide +kernel
theorem dK4_hasPartOf_3 : decode cK4_hasPartOf 3 = .ok (.aload_n 0, 1) := by decide +kernel
theorem dK4_hasPartOf_4 : decode cK4_hasPartOf 4 = .ok (.getfield 18, 3) := by decide +kernel
theorem dK4_hasPartOf_7 : decode cK4_hasPartOf 7 = .ok (.if_icmp .ge 24, 3) := by decide +kernel
theorem dK4_hasPartOf_10 : decode cK4_hasPartOf 10 = .ok (.aload_n 0, 1) := by decide +kernel
theorem dK4_hasPartOf_11 : decode cK4_hasPartOf 11 = .ok (.getfield 9, 3) := by decide +kernel
theorem dK4_hasPartOf_14 : decode cK4_hasPartOf 14 = .ok (.iload_n 2, 1) := by decide +kernel
theorem dK4_hasPartOf_15 : decode cK4_hasPartOf 15 = .ok (.iaload, 1) := by decide +kernel
theorem dK4_hasPartOf_16 : decode cK4_hasPartOf 16 = .ok (.iload_n 1, 1) := by decide +kernel
theorem dK4_hasPartOf_17 : decode cK4_hasPartOf 17 = .ok (.iconst (-1), 1) := by decide +kernel
theorem dK4_hasPartOf_18 : decode cK4_hasPartOf 18 = .ok (.ixor, 1) := by decide +kernel
theorem dK4_hasPartOf_19 : decode cK4_hasPartOf 19 = .ok (.iand, 1) := by decide +kernel
theorem dK4_hasPartOf_20 : decode cK4_hasPartOf 20 = .ok (.ifCond .ne 5, 3) := by decide +kernel
theorem dK4_hasPartOf_23 : decode cK4_hasPartOf 23 = .ok (.iconst 1, 1) := by decide +kernel
theorem dK4_hasPartOf_24 : decode cK4_hasPartOf 24 = .ok (.ireturn, 1) := by decide +kernel
theorem dK4_hasPartOf_25 : decode cK4_hasPartOf 25 = .ok (.iinc 2 1, 3) := by decide +kernel
theorem dK4_hasPartOf_28 : decode cK4_hasPartOf 28 = .ok (.goto (-26), 3) := by decide +kernel
theorem dK4_hasPartOf_31 : decode cK4_hasPartOf 31 = .ok (.iconst 0, 1) := by decide +kernel
theorem dK4_hasPartOf_32 : decode cK4_hasPartOf 32 = .ok (.ireturn, 1) := by decide +kernel
theorem dK0_tryOut_0 : decode cK0_tryOut 0 = .ok (.aload_n 0, 1) := by decide +kernel
theorem dK0_tryOut_1 : decode cK0_tryOut 1 = .ok (.getfield 16, 3) := by decide +kernel
theorem dK0_tryOut_4 : decode cK0_tryOut 4 = .ok (.aload_n 0, 1) := by decide +kernel
theorem dK0_tryOut_5 : decode cK0_tryOut 5 = .ok (.getfield 12, 3) := by decide +kernel
theorem dK0_tryOut_8 : decode cK0_tryOut 8 = .ok (.invokevirtual 219, 3) := by decide +kernel
theorem dK0_tryOut_11 : decode cK0_tryOut 11 = .ok (.aload_n 0, 1) := by decide +kernel
theorem dK0_tryOut_12 : decode cK0_tryOut 12 = .ok (.getfield 29, 3) := by decide +kernel
theorem dK0_tryOut_15 : decode cK0_tryOut 15 = .ok (.aload_n 0, 1) := by decide +kernel
theorem dK0_tryOut_16 : decode cK0_tryOut 16 = .ok (.getfield 16, 3) := by decide +kernel
theorem dK0_tryOut_19 : decode cK0_tryOut 19 = .ok (.iload_n 1, 1) := by decide +kernel
theorem dK0_tryOut_20 : decode cK0_tryOut 20 = .ok (.invokevirtual 163, 3) := by decide +kernel
theorem dK0_tryOut_23 : decode cK0_tryOut 23 = .ok (.aload_n 0, 1) := by decide +kernel
theorem dK0_tryOut_24 : decode cK0_tryOut 24 = .ok (.getfield 16, 3) := by decide +kernel
theorem dK0_tryOut_27 : decode cK0_tryOut 27 = .ok (.invokevirtual 167, 3) := by decide +kernel
theorem dK0_tryOut_30 : decode cK0_tryOut 30 = .ok (.return_, 1) := by decide +kernel
theorem dK1_copyFrom_0 : decode cK1_copyFrom 0 = .ok (.aload_n 1, 1) := by decide +kernel
theorem dK1_copyFrom_1 : decode cK1_copyFrom 1 = .ok (.getfield 9, 3) := by decide +kernel
theorem dK1_copyFrom_4 : decode cK1_copyFrom 4 = .ok (.iconst 0, 1) := by decide +kernel
theorem dK1_copyFrom_5 : decode cK1_copyFrom 5 = .ok (.aload_n 0, 1) := by decide +kernel
theorem dK1_copyFrom_6 : decode cK1_copyFrom 6 = .ok (.getfield 9, 3) := by decide +kernel
theorem dK1_copyFrom_9 : decode cK1_copyFrom 9 = .ok (.iconst 0, 1) := by decide +kernel
theorem dK1_copyFrom_10 : decode cK1_copyFrom 10 = .ok (.bipush 72, 2) := by decide +kernel
theorem dK1_copyFrom_12 : decode cK1_copyFrom 12 = .ok (.invokestatic 33, 3) := by decide +kernel
theorem dK1_copyFrom_15 : decode cK1_copyFrom 15 = .ok (.aload_n 1, 1) := by decide +kernel
theorem dK1_copyFrom_16 : decode cK1_copyFrom 16 = .ok (.getfield 15, 3) := by decide +kernel
theorem dK1_copyFrom_19 : decode cK1_copyFrom 19 = .ok (.iconst 0, 1) := by decide +kernel
theorem dK1_copyFrom_20 : decode cK1_copyFrom 20 = .ok (.aload_n 0, 1) := by decide +kernel
theorem dK1_copyFrom_21 : decode cK1_copyFrom 21 = .ok (.getfield 15, 3) := by decide +kernel
theorem dK1_copyFrom_24 : decode cK1_copyFrom 24 = .ok (.iconst 0, 1) := by decide +kernel
theorem dK1_copyFrom_25 : decode cK1_copyFrom 25 = .ok (.bipush 12, 2) := by decide +kernel
theorem dK1_copyFrom_27 : decode cK1_copyFrom 27 = .ok (.invokestatic 33, 3) := by decide +kernel
theorem dK1_copyFrom_30 : decode cK1_copyFrom 30 = .ok (.aload_n 0, 1) := by decide +kernel
theorem dK1_copyFrom_31 : decode cK1_copyFrom 31 = .ok (.aload_n 1, 1) := by decide +kernel
theorem dK1_copyFrom_32 : decode cK1_copyFrom 32 = .ok (.getfield 21, 3) := by decide +kernel
theorem dK1_copyFrom_35 : decode cK1_copyFrom 35 = .ok (.putfield 21, 3) := by decide +kernel
theorem dK1_copyFrom_38 : decode cK1_copyFrom 38 = .ok (.return_, 1) := by decide +kernel
theorem dK3_doAll_0 : decode cK3_doAll 0 = .ok (.iconst 0, 1) := by decide +kernel
theorem dK3_doAll_1 : decode cK3_doAll 1 = .ok (.istore_n 3, 1) := by decide +kernel
theorem dK3_doAll_2 : decode cK3_doAll 2 = .ok (.iload_n 3, 1) := by decide +kernel
theorem dK3_doAll_3 : decode cK3_doAll 3 = .ok (.aload_n 0, 1) := by decide +kernel
theorem dK3_doAll_4 : decode cK3_doAll 4 = .ok (.getfield 22, 3) := by decide +kernel
theorem dK3_doAll_7 : decode cK3_doAll 7 = .ok (.if_icmp .ge 33, 3) := by decide +kernel
theorem dK3_doAll_10 : decode cK3_doAll 10 = .ok (.iload_n 2, 1) := by decide +kernel
theorem dK3_doAll_11 : decode cK3_doAll 11 = .ok (.iload_n 3, 1) := by decide +kernel
theorem dK3_doAll_12 : decode cK3_doAll 12 = .ok (.invokestatic 26, 3) := by decide +kernel
theorem dK3_doAll_15 : decode cK3_doAll 15 = .ok (.ifCond .eq 19, 3) := by decide +kernel
theorem dK3_doAll_18 : decode cK3_doAll 18 = .ok (.aload_n 1, 1) := by decide +kernel
theorem dK3_doAll_19 : decode cK3_doAll 19 = .ok (.aload_n 0, 1) := by decide +kernel
theorem dK3_doAll_20 : decode cK3_doAll 20 = .ok (.getfield 9, 3) := by decide +kernel
theorem dK3_doAll_23 : decode cK3_doAll 23 = .ok (.iload_n 3, 1) := by decide +kernel
theorem dK3_doAll_24 : decode cK3_doAll 24 = .ok (.baload, 1) := by decide +kernel
theorem dK3_doAll_25 : decode cK3_doAll 25 = .ok (.aload_n 0, 1) := by decide +kernel
theorem dK3_doAll_26 : decode cK3_doAll 26 = .ok (.getfield 15, 3) := by decide +kernel
theorem dK3_doAll_29 : decode cK3_doAll 29 = .ok (.iload_n 3, 1) := by decide +kernel
theorem dK3_doAll_30 : decode cK3_doAll 30 = .ok (.iaload, 1) := by decide +kernel
theorem dK3_doAll_31 : decode cK3_doAll 31 = .ok (.invokevirtual 30, 3) := by decide +kernel
theorem dK3_doAll_34 : decode cK3_doAll 34 = .ok (.iinc 3 1, 3) := by decide +kernel
theorem dK3_doAll_37 : decode cK3_doAll 37 = .ok (.goto (-35), 3) := by decide +kernel
theorem dK3_doAll_40 : decode cK3_doAll 40 = .ok (.return_, 1) := by decide +kernel
theorem dK3_weightOf_0 : decode cK3_weightOf 0 = .ok (.iconst 0, 1) := by decide +kernel
theorem dK3_weightOf_1 : decode cK3_weightOf 1 = .ok (.istore_n 2, 1) := by decide +kernel
theorem dK3_weightOf_2 : decode cK3_weightOf 2 = .ok (.iconst 0, 1) := by decide +kernel
theorem dK3_weightOf_3 : decode cK3_weightOf 3 = .ok (.istore_n 3, 1) := by decide +kernel
theorem dK3_weightOf_4 : decode cK3_weightOf 4 = .ok (.iload_n 3, 1) := by decide +kernel
theorem dK3_weightOf_5 : decode cK3_weightOf 5 = .ok (.aload_n 0, 1) := by decide +kernel
theorem dK3_weightOf_6 : decode cK3_weightOf 6 = .ok (.getfield 22, 3) := by decide +kernel
theorem dK3_weightOf_9 : decode cK3_weightOf 9 = .ok (.if_icmp .ge 26, 3) := by decide +kernel
theorem dK3_weightOf_12 : decode cK3_weightOf 12 = .ok (.iload_n 1, 1) := by decide +kernel
theorem dK3_weightOf_13 : decode cK3_weightOf 13 = .ok (.iload_n 3, 1) := by decide +kernel
theorem dK3_weightOf_14 : decode cK3_weightOf 14 = .ok (.invokestatic 26, 3) := by decide +kernel
theorem dK3_weightOf_17 : decode cK3_weightOf 17 = .ok (.ifCond .eq 12, 3) := by decide +kernel
theorem dK3_weightOf_20 : decode cK3_weightOf 20 = .ok (.iload_n 2, 1) := by decide +kernel
theorem dK3_weightOf_21 : decode cK3_weightOf 21 = .ok (.aload_n 0, 1) := by decide +kernel
theorem dK3_weightOf_22 : decode cK3_weightOf 22 = .ok (.getfield 19, 3) := by decide +kernel
theorem dK3_weightOf_25 : decode cK3_weightOf 25 = .ok (.iload_n 3, 1) := by decide +kernel
theorem dK3_weightOf_26 : decode cK3_weightOf 26 = .ok (.iaload, 1) := by decide +kernel
theorem dK3_weightOf_27 : decode cK3_weightOf 27 = .ok (.iadd, 1) := by decide +kernel
theorem dK3_weightOf_28 : decode cK3_weightOf 28 = .ok (.istore_n 2, 1) := by decide +kernel
theorem dK3_weightOf_29 : decode cK3_weightOf 29 = .ok (.iinc 3 1, 3) := by decide +kernel
theorem dK3_weightOf_32 : decode cK3_weightOf 32 = .ok (.goto (-28), 3) := by decide +kernel
theorem dK3_weightOf_35 : decode cK3_weightOf 35 = .ok (.iload_n 2, 1) := by decide +kernel
theorem dK3_weightOf_36 : decode cK3_weightOf 36 = .ok (.ireturn, 1) := by decide +kernel
theorem dK4_add_0 : decode cK4_add 0 = .ok (.aload_n 0, 1) := by decide +kernel
theorem dK4_add_1 : decode cK4_add 1 = .ok (.getfield 18, 3) := by decide +kernel
theorem dK4_add_4 : decode cK4_add 4 = .ok (.bipush 30, 2) := by decide +kernel
theorem dK4_add_6 : decode cK4_add 6 = .ok (.if_icmp .lt 4, 3) := by decide +kernel
theorem dK4_add_9 : decode cK4_add 9 = .ok (.return_, 1) := by decide +kernel
theorem dK4_add_10 : decode cK4_add 10 = .ok (.aload_n 0, 1) := by decide +kernel
theorem dK4_add_11 : decode cK4_add 11 = .ok (.getfield 18, 3) := by decide +kernel
theorem dK4_add_14 : decode cK4_add 14 = .ok (.istore_n 3, 1) := by decide +kernel
theorem dK4_add_15 : decode cK4_add 15 = .ok (.iload_n 3, 1) := by decide +kernel
theorem dK4_add_16 : decode cK4_add 16 = .ok (.ifCond .le 49, 3) := by decide +kernel
theorem dK4_add_19 : decode cK4_add 19 = .ok (.aload_n 0, 1) := by decide +kernel
theorem dK4_add_20 : decode cK4_add 20 = .ok (.getfield 15, 3) := by decide +kernel
theorem dK4_add_23 : decode cK4_add 23 = .ok (.iload_n 3, 1) := by decide +kernel
theorem dK4_add_24 : decode cK4_add 24 = .ok (.iconst 1, 1) := by decide +kernel
theorem dK4_add_25 : decode cK4_add 25 = .ok (.isub, 1) := by decide +kernel
theorem dK4_add_26 : decode cK4_add 26 = .ok (.iaload, 1) := by decide +kernel
theorem dK4_add_27 : decode cK4_add 27 = .ok (.iload_n 2, 1) := by decide +kernel
theorem dK4_add_28 : decode cK4_add 28 = .ok (.if_icmp .le 37, 3) := by decide +kernel
theorem dK4_add_31 : decode cK4_add 31 = .ok (.aload_n 0, 1) := by decide +kernel
theorem dK4_add_32 : decode cK4_add 32 = .ok (.getfield 9, 3) := by decide +kernel
theorem dK4_add_35 : decode cK4_add 35 = .ok (.iload_n 3, 1) := by decide +kernel
theorem dK4_add_36 : decode cK4_add 36 = .ok (.aload_n 0, 1) := by decide +kernel
theorem dK4_add_37 : decode cK4_add 37 = .ok (.getfield 9, 3) := by decide +kernel
theorem dK4_add_40 : decode cK4_add 40 = .ok (.iload_n 3, 1) := by decide +kernel
theorem dK4_add_41 : decode cK4_add 41 = .ok (.iconst 1, 1) := by decide +kernel
theorem dK4_add_42 : decode cK4_add 42 = .ok (.isub, 1) := by decide +kernel
theorem dK4_add_43 : decode cK4_add 43 = .ok (.iaload, 1) := by decide +kernel
theorem dK4_add_44 : decode cK4_add 44 = .ok (.iastore, 1) := by decide +kernel
theorem dK4_add_45 : decode cK4_add 45 = .ok (.aload_n 0, 1) := by decide +kernel
theorem dK4_add_46 : decode cK4_add 46 = .ok (.getfield 15, 3) := by decide +kernel
theorem dK4_add_49 : decode cK4_add 49 = .ok (.iload_n 3, 1) := by decide +kernel
theorem dK4_add_50 : decode cK4_add 50 = .ok (.aload_n 0, 1) := by decide +kernel
theorem dK4_add_51 : decode cK4_add 51 = .ok (.getfield 15, 3) := by decide +kernel
theorem dK4_add_54 : decode cK4_add 54 = .ok (.iload_n 3, 1) := by decide +kernel
theorem dK4_add_55 : decode cK4_add 55 = .ok (.iconst 1, 1) := by decide +kernel
theorem dK4_add_56 : decode cK4_add 56 = .ok (.isub, 1) := by decide +kernel
theorem dK4_add_57 : decode cK4_add 57 = .ok (.iaload, 1) := by decide +kernel
theorem dK4_add_58 : decode cK4_add 58 = .ok (.iastore, 1) := by decide +kernel
theorem dK4_add_59 : decode cK4_add 59 = .ok (.iinc 3 (-1), 3) := by decide +kernel
theorem dK4_add_62 : decode cK4_add 62 = .ok (.goto (-47), 3) := by decide +kernel
theorem dK4_add_65 : decode cK4_add 65 = .ok (.aload_n 0, 1) := by decide +kernel
theorem dK4_add_66 : decode cK4_add 66 = .ok (.getfield 9, 3) := by decide +kernel
theorem dK4_add_69 : decode cK4_add 69 = .ok (.iload_n 3, 1) := by decide +kernel
theorem dK4_add_70 : decode cK4_add 70 = .ok (.iload_n 1, 1) := by decide +kernel
theorem dK4_add_71 : decode cK4_add 71 = .ok (.iastore, 1) := by decide +kernel
theorem dK4_add_72 : decode cK4_add 72 = .ok (.aload_n 0, 1) := by decide +kernel
theorem dK4_add_73 : decode cK4_add 73 = .ok (.getfield 15, 3) := by decide +kernel
theorem dK4_add_76 : decode cK4_add 76 = .ok (.iload_n 3, 1) := by decide +kernel
theorem dK4_add_77 : decode cK4_add 77 = .ok (.iload_n 2, 1) := by decide +kernel
theorem dK4_add_78 : decode cK4_add 78 = .ok (.iastore, 1) := by decide +kernel
theorem dK4_add_79 : decode cK4_add 79 = .ok (.aload_n 0, 1) := by decide +kernel
theorem dK4_add_80 : decode cK4_add 80 = .ok (.dup, 1) := by decide +kernel
theorem dK4_add_81 : decode cK4_add 81 = .ok (.getfield 18, 3) := by decide +kernel
theorem dK4_add_84 : decode cK4_add 84 = .ok (.iconst 1, 1) := by decide +kernel
theorem dK4_add_85 : decode cK4_add 85 = .ok (.iadd, 1) := by decide +kernel
theorem dK4_add_86 : decode cK4_add 86 = .ok (.putfield 18, 3) := by decide +kernel
theorem dK4_add_89 : decode cK4_add 89 = .ok (.return_, 1) := by decide +kernel
theorem dK0_settled_0 : decode cK0_settled 0 = .ok (.aload_n 0, 1) := by decide +kernel
theorem dK0_settled_1 : decode cK0_settled 1 = .ok (.getfield 57, 3) := by decide +kernel
theorem dK0_settled_4 : decode cK0_settled 4 = .ok (.ireturn, 1) := by decide +kernel
theorem dK0_tried_0 : decode cK0_tried 0 = .ok (.aload_n 0, 1) := by decide +kernel
theorem dK0_tried_1 : decode cK0_tried 1 = .ok (.getfield 54, 3) := by decide +kernel
theorem dK0_tried_4 : decode cK0_tried 4 = .ok (.ireturn, 1) := by decide +kernel
theorem dK0_set_0 : decode cK0_set 0 = .ok (.aload_n 0, 1) := by decide +kernel
theorem dK0_set_1 : decode cK0_set 1 = .ok (.getfield 36, 3) := by decide +kernel
theorem dK0_set_4 : decode cK0_set 4 = .ok (.iload_n 1, 1) := by decide +kernel
theorem dK0_set_5 : decode cK0_set 5 = .ok (.invokevirtual 150, 3) := by decide +kernel
theorem dK0_set_8 : decode cK0_set 8 = .ok (.iload_n 2, 1) := by decide +kernel
theorem dK0_set_9 : decode cK0_set 9 = .ok (.invokestatic 153, 3) := by decide +kernel
theorem dK0_set_12 : decode cK0_set 12 = .ok (.ireturn, 1) := by decide +kernel
theorem dK4_at_0 : decode cK4_at 0 = .ok (.iload_n 1, 1) := by decide +kernel
theorem dK4_at_1 : decode cK4_at 1 = .ok (.ifCond .lt 20, 3) := by decide +kernel
theorem dK4_at_4 : decode cK4_at 4 = .ok (.iload_n 1, 1) := by decide +kernel
theorem dK4_at_5 : decode cK4_at 5 = .ok (.aload_n 0, 1) := by decide +kernel
theorem dK4_at_6 : decode cK4_at 6 = .ok (.getfield 18, 3) := by decide +kernel
theorem dK4_at_9 : decode cK4_at 9 = .ok (.if_icmp .ge 12, 3) := by decide +kernel
theorem dK4_at_12 : decode cK4_at 12 = .ok (.aload_n 0, 1) := by decide +kernel
theorem dK4_at_13 : decode cK4_at 13 = .ok (.getfield 9, 3) := by decide +kernel
theorem dK4_at_16 : decode cK4_at 16 = .ok (.iload_n 1, 1) := by decide +kernel
theorem dK4_at_17 : decode cK4_at 17 = .ok (.iaload, 1) := by decide +kernel
theorem dK4_at_18 : decode cK4_at 18 = .ok (.goto 4, 3) := by decide +kernel
theorem dK4_at_21 : decode cK4_at 21 = .ok (.iconst 0, 1) := by decide +kernel
theorem dK4_at_22 : decode cK4_at 22 = .ok (.ireturn, 1) := by decide +kernel
theorem dK0_weight_0 : decode cK0_weight 0 = .ok (.aload_n 0, 1) := by decide +kernel
theorem dK0_weight_1 : decode cK0_weight 1 = .ok (.getfield 36, 3) := by decide +kernel
theorem dK0_weight_4 : decode cK0_weight 4 = .ok (.iload_n 1, 1) := by decide +kernel
theorem dK0_weight_5 : decode cK0_weight 5 = .ok (.invokevirtual 150, 3) := by decide +kernel
theorem dK0_weight_8 : decode cK0_weight 8 = .ok (.istore_n 2, 1) := by decide +kernel
theorem dK0_weight_9 : decode cK0_weight 9 = .ok (.iload_n 2, 1) := by decide +kernel
theorem dK0_weight_10 : decode cK0_weight 10 = .ok (.ifCond .ne 8, 3) := by decide +kernel
theorem dK0_weight_13 : decode cK0_weight 13 = .ok (.bipush (-2), 2) := by decide +kernel
theorem dK0_weight_15 : decode cK0_weight 15 = .ok (.goto 11, 3) := by decide +kernel
theorem dK0_weight_18 : decode cK0_weight 18 = .ok (.aload_n 0, 1) := by decide +kernel
theorem dK0_weight_19 : decode cK0_weight 19 = .ok (.getfield 29, 3) := by decide +kernel
theorem dK0_weight_22 : decode cK0_weight 22 = .ok (.iload_n 2, 1) := by decide +kernel
theorem dK0_weight_23 : decode cK0_weight 23 = .ok (.invokevirtual 156, 3) := by decide +kernel
theorem dK0_weight_26 : decode cK0_weight 26 = .ok (.ireturn, 1) := by decide +kernel
theorem dK0_breaks_0 : decode cK0_breaks 0 = .ok (.aload_n 0, 1) := by decide +kernel
theorem dK0_breaks_1 : decode cK0_breaks 1 = .ok (.getfield 36, 3) := by decide +kernel
theorem dK0_breaks_4 : decode cK0_breaks 4 = .ok (.iload_n 1, 1) := by decide +kernel
theorem dK0_breaks_5 : decode cK0_breaks 5 = .ok (.invokevirtual 150, 3) := by decide +kernel
theorem dK0_breaks_8 : decode cK0_breaks 8 = .ok (.istore_n 3, 1) := by decide +kernel
theorem dK0_breaks_9 : decode cK0_breaks 9 = .ok (.iload_n 3, 1) := by decide +kernel
theorem dK0_breaks_10 : decode cK0_breaks 10 = .ok (.ifCond .ne 6, 3) := by decide +kernel
theorem dK0_breaks_13 : decode cK0_breaks 13 = .ok (.bipush (-2), 2) := by decide +kernel
theorem dK0_breaks_15 : decode cK0_breaks 15 = .ok (.ireturn, 1) := by decide +kernel
theorem dK0_breaks_16 : decode cK0_breaks 16 = .ok (.aload_n 0, 1) := by decide +kernel
theorem dK0_breaks_17 : decode cK0_breaks 17 = .ok (.iload_n 3, 1) := by decide +kernel
theorem dK0_breaks_18 : decode cK0_breaks 18 = .ok (.invokevirtual 159, 3) := by decide +kernel
theorem dK0_breaks_21 : decode cK0_breaks 21 = .ok (.aload_n 0, 1) := by decide +kernel
theorem dK0_breaks_22 : decode cK0_breaks 22 = .ok (.iload_n 2, 1) := by decide +kernel
theorem dK0_breaks_23 : decode cK0_breaks 23 = .ok (.iconst 1, 1) := by decide +kernel
theorem dK0_breaks_24 : decode cK0_breaks 24 = .ok (.invokevirtual 93, 3) := by decide +kernel
theorem dK0_breaks_27 : decode cK0_breaks 27 = .ok (.ireturn, 1) := by decide +kernel
theorem dK0_apply_0 : decode cK0_apply 0 = .ok (.aload_n 0, 1) := by decide +kernel
theorem dK0_apply_1 : decode cK0_apply 1 = .ok (.getfield 36, 3) := by decide +kernel
theorem dK0_apply_4 : decode cK0_apply 4 = .ok (.iload_n 1, 1) := by decide +kernel
theorem dK0_apply_5 : decode cK0_apply 5 = .ok (.invokevirtual 150, 3) := by decide +kernel
theorem dK0_apply_8 : decode cK0_apply 8 = .ok (.istore_n 2, 1) := by decide +kernel
theorem dK0_apply_9 : decode cK0_apply 9 = .ok (.iload_n 2, 1) := by decide +kernel
theorem dK0_apply_10 : decode cK0_apply 10 = .ok (.ifCond .ne 6, 3) := by decide +kernel
theorem dK0_apply_13 : decode cK0_apply 13 = .ok (.bipush (-2), 2) := by decide +kernel
theorem dK0_apply_15 : decode cK0_apply 15 = .ok (.ireturn, 1) := by decide +kernel
theorem dK0_apply_16 : decode cK0_apply 16 = .ok (.aload_n 0, 1) := by decide +kernel
theorem dK0_apply_17 : decode cK0_apply 17 = .ok (.getfield 29, 3) := by decide +kernel
theorem dK0_apply_20 : decode cK0_apply 20 = .ok (.aload_n 0, 1) := by decide +kernel
theorem dK0_apply_21 : decode cK0_apply 21 = .ok (.getfield 12, 3) := by decide +kernel
theorem dK0_apply_24 : decode cK0_apply 24 = .ok (.iload_n 2, 1) := by decide +kernel
theorem dK0_apply_25 : decode cK0_apply 25 = .ok (.invokevirtual 163, 3) := by decide +kernel
theorem dK0_apply_28 : decode cK0_apply 28 = .ok (.aload_n 0, 1) := by decide +kernel
theorem dK0_apply_29 : decode cK0_apply 29 = .ok (.getfield 12, 3) := by decide +kernel
theorem dK0_apply_32 : decode cK0_apply 32 = .ok (.invokevirtual 167, 3) := by decide +kernel
theorem dK0_apply_35 : decode cK0_apply 35 = .ok (.aload_n 0, 1) := by decide +kernel
theorem dK0_apply_36 : decode cK0_apply 36 = .ok (.getfield 36, 3) := by decide +kernel
theorem dK0_apply_39 : decode cK0_apply 39 = .ok (.invokevirtual 139, 3) := by decide +kernel
theorem dK0_apply_42 : decode cK0_apply 42 = .ok (.aload_n 0, 1) := by decide +kernel
theorem dK0_apply_43 : decode cK0_apply 43 = .ok (.invokevirtual 170, 3) := by decide +kernel
theorem dK0_apply_46 : decode cK0_apply 46 = .ok (.ireturn, 1) := by decide +kernel
theorem dK0_cover_0 : decode cK0_cover 0 = .ok (.iload_n 1, 1) := by decide +kernel
theorem dK0_cover_1 : decode cK0_cover 1 = .ok (.ifCond .lt 9, 3) := by decide +kernel
theorem dK0_cover_4 : decode cK0_cover 4 = .ok (.iload_n 1, 1) := by decide +kernel
theorem dK0_cover_5 : decode cK0_cover 5 = .ok (.bipush 12, 2) := by decide +kernel
theorem dK0_cover_7 : decode cK0_cover 7 = .ok (.if_icmp .le 5, 3) := by decide +kernel
theorem dK0_cover_10 : decode cK0_cover 10 = .ok (.iconst (-1), 1) := by decide +kernel
theorem dK0_cover_11 : decode cK0_cover 11 = .ok (.ireturn, 1) := by decide +kernel
theorem dK0_cover_12 : decode cK0_cover 12 = .ok (.aload_n 0, 1) := by decide +kernel
theorem dK0_cover_13 : decode cK0_cover 13 = .ok (.iload_n 1, 1) := by decide +kernel
theorem dK0_cover_14 : decode cK0_cover 14 = .ok (.aload_n 0, 1) := by decide +kernel
theorem dK0_cover_15 : decode cK0_cover 15 = .ok (.getfield 29, 3) := by decide +kernel
theorem dK0_cover_18 : decode cK0_cover 18 = .ok (.getfield 121, 3) := by decide +kernel
theorem dK0_cover_21 : decode cK0_cover 21 = .ok (.invokestatic 140, 3) := by decide +kernel
theorem dK0_cover_24 : decode cK0_cover 24 = .ok (.invokevirtual 174, 3) := by decide +kernel
theorem dK0_cover_27 : decode cK0_cover 27 = .ok (.istore_n 2, 1) := by decide +kernel
theorem dK0_cover_28 : decode cK0_cover 28 = .ok (.iload_n 2, 1) := by decide +kernel
theorem dK0_cover_29 : decode cK0_cover 29 = .ok (.iconst (-1), 1) := by decide +kernel
theorem dK0_cover_30 : decode cK0_cover 30 = .ok (.if_icmp .ne 11, 3) := by decide +kernel
theorem dK0_cover_33 : decode cK0_cover 33 = .ok (.aload_n 0, 1) := by decide +kernel
theorem dK0_cover_34 : decode cK0_cover 34 = .ok (.iconst 0, 1) := by decide +kernel
theorem dK0_cover_35 : decode cK0_cover 35 = .ok (.putfield 47, 3) := by decide +kernel
theorem dK0_cover_38 : decode cK0_cover 38 = .ok (.bipush (-2), 2) := by decide +kernel
theorem dK0_cover_40 : decode cK0_cover 40 = .ok (.ireturn, 1) := by decide +kernel
theorem dK0_cover_41 : decode cK0_cover 41 = .ok (.aload_n 0, 1) := by decide +kernel
theorem dK0_cover_42 : decode cK0_cover 42 = .ok (.iload_n 2, 1) := by decide +kernel
theorem dK0_cover_43 : decode cK0_cover 43 = .ok (.putfield 47, 3) := by decide +kernel
theorem dK0_cover_46 : decode cK0_cover 46 = .ok (.aload_n 0, 1) := by decide +kernel
theorem dK0_cover_47 : decode cK0_cover 47 = .ok (.getfield 29, 3) := by decide +kernel
theorem dK0_cover_50 : decode cK0_cover 50 = .ok (.iload_n 2, 1) := by decide +kernel
theorem dK0_cover_51 : decode cK0_cover 51 = .ok (.invokevirtual 156, 3) := by decide +kernel
theorem dK0_cover_54 : decode cK0_cover 54 = .ok (.ireturn, 1) := by decide +kernel
theorem dK0_lightestCover_0 : decode cK0_lightestCover 0 = .ok (.aload_n 0, 1) := by decide +kernel
theorem dK0_lightestCover_1 : decode cK0_lightestCover 1 = .ok (.iconst 0, 1) := by decide +kernel
theorem dK0_lightestCover_2 : decode cK0_lightestCover 2 = .ok (.putfield 54, 3) := by decide +kernel
theorem dK0_lightestCover_5 : decode cK0_lightestCover 5 = .ok (.aload_n 0, 1) := by decide +kernel
theorem dK0_lightestCover_6 : decode cK0_lightestCover 6 = .ok (.iconst 0, 1) := by decide +kernel
theorem dK0_lightestCover_7 : decode cK0_lightestCover 7 = .ok (.putfield 57, 3) := by decide +kernel
theorem dK0_lightestCover_10 : decode cK0_lightestCover 10 = .ok (.iconst (-1), 1) := by decide +kernel
theorem dK0_lightestCover_11 : decode cK0_lightestCover 11 = .ok (.istore_n 2, 1) := by decide +kernel
theorem dK0_lightestCover_12 : decode cK0_lightestCover 12 = .ok (.bipush 109, 2) := by decide +kernel
theorem dK0_lightestCover_14 : decode cK0_lightestCover 14 = .ok (.istore_n 3, 1) := by decide +kernel
theorem dK0_lightestCover_15 : decode cK0_lightestCover 15 = .ok (.iconst 0, 1) := by decide +kernel
theorem dK0_lightestCover_16 : decode cK0_lightestCover 16 = .ok (.istore 4, 2) := by decide +kernel
theorem dK0_lightestCover_18 : decode cK0_lightestCover 18 = .ok (.iconst 0, 1) := by decide +kernel
theorem dK0_lightestCover_19 : decode cK0_lightestCover 19 = .ok (.istore 5, 2) := by decide +kernel
theorem dK0_lightestCover_21 : decode cK0_lightestCover 21 = .ok (.iload 5, 2) := by decide +kernel
theorem dK0_lightestCover_23 : decode cK0_lightestCover 23 = .ok (.sipush 4096, 3) := by decide +kernel
theorem dK0_lightestCover_26 : decode cK0_lightestCover 26 = .ok (.if_icmp .ge 85, 3) := by decide +kernel
theorem dK0_lightestCover_29 : decode cK0_lightestCover 29 = .ok (.iload 4, 2) := by decide +kernel
theorem dK0_lightestCover_31 : decode cK0_lightestCover 31 = .ok (.iconst (-1), 1) := by decide +kernel
theorem dK0_lightestCover_32 : decode cK0_lightestCover 32 = .ok (.if_icmp .eq 79, 3) := by decide +kernel
theorem dK0_lightestCover_35 : decode cK0_lightestCover 35 = .ok (.aload_n 0, 1) := by decide +kernel
theorem dK0_lightestCover_36 : decode cK0_lightestCover 36 = .ok (.getfield 54, 3) := by decide +kernel
theorem dK0_lightestCover_39 : decode cK0_lightestCover 39 = .ok (.aload_n 0, 1) := by decide +kernel
theorem dK0_lightestCover_40 : decode cK0_lightestCover 40 = .ok (.getfield 51, 3) := by decide +kernel
theorem dK0_lightestCover_43 : decode cK0_lightestCover 43 = .ok (.if_icmp .lt 5, 3) := by decide +kernel
theorem dK0_lightestCover_46 : decode cK0_lightestCover 46 = .ok (.iload_n 2, 1) := by decide +kernel
theorem dK0_lightestCover_47 : decode cK0_lightestCover 47 = .ok (.ireturn, 1) := by decide +kernel
theorem dK0_lightestCover_48 : decode cK0_lightestCover 48 = .ok (.aload_n 0, 1) := by decide +kernel
theorem dK0_lightestCover_49 : decode cK0_lightestCover 49 = .ok (.dup, 1) := by decide +kernel
theorem dK0_lightestCover_50 : decode cK0_lightestCover 50 = .ok (.getfield 54, 3) := by decide +kernel
theorem dK0_lightestCover_53 : decode cK0_lightestCover 53 = .ok (.iconst 1, 1) := by decide +kernel
theorem dK0_lightestCover_54 : decode cK0_lightestCover 54 = .ok (.iadd, 1) := by decide +kernel
theorem dK0_lightestCover_55 : decode cK0_lightestCover 55 = .ok (.putfield 54, 3) := by decide +kernel
theorem dK0_lightestCover_58 : decode cK0_lightestCover 58 = .ok (.aload_n 0, 1) := by decide +kernel
theorem dK0_lightestCover_59 : decode cK0_lightestCover 59 = .ok (.getfield 29, 3) := by decide +kernel
theorem dK0_lightestCover_62 : decode cK0_lightestCover 62 = .ok (.iload 4, 2) := by decide +kernel
theorem dK0_lightestCover_64 : decode cK0_lightestCover 64 = .ok (.invokevirtual 156, 3) := by decide +kernel
theorem dK0_lightestCover_67 : decode cK0_lightestCover 67 = .ok (.istore 6, 2) := by decide +kernel
theorem dK0_lightestCover_69 : decode cK0_lightestCover 69 = .ok (.iload 6, 2) := by decide +kernel
theorem dK0_lightestCover_71 : decode cK0_lightestCover 71 = .ok (.iload_n 3, 1) := by decide +kernel
theorem dK0_lightestCover_72 : decode cK0_lightestCover 72 = .ok (.if_icmp .ge 18, 3) := by decide +kernel
theorem dK0_lightestCover_75 : decode cK0_lightestCover 75 = .ok (.aload_n 0, 1) := by decide +kernel
theorem dK0_lightestCover_76 : decode cK0_lightestCover 76 = .ok (.iload 4, 2) := by decide +kernel
theorem dK0_lightestCover_78 : decode cK0_lightestCover 78 = .ok (.invokevirtual 232, 3) := by decide +kernel
theorem dK0_lightestCover_81 : decode cK0_lightestCover 81 = .ok (.ifCond .eq 9, 3) := by decide +kernel
theorem dK0_lightestCover_84 : decode cK0_lightestCover 84 = .ok (.iload 4, 2) := by decide +kernel
theorem dK0_lightestCover_86 : decode cK0_lightestCover 86 = .ok (.istore_n 2, 1) := by decide +kernel
theorem dK0_lightestCover_87 : decode cK0_lightestCover 87 = .ok (.iload 6, 2) := by decide +kernel
theorem dK0_lightestCover_89 : decode cK0_lightestCover 89 = .ok (.istore_n 3, 1) := by decide +kernel
theorem dK0_lightestCover_90 : decode cK0_lightestCover 90 = .ok (.iload 4, 2) := by decide +kernel
theorem dK0_lightestCover_92 : decode cK0_lightestCover 92 = .ok (.aload_n 0, 1) := by decide +kernel
theorem dK0_lightestCover_93 : decode cK0_lightestCover 93 = .ok (.getfield 29, 3) := by decide +kernel
theorem dK0_lightestCover_96 : decode cK0_lightestCover 96 = .ok (.getfield 121, 3) := by decide +kernel
theorem dK0_lightestCover_99 : decode cK0_lightestCover 99 = .ok (.iload_n 1, 1) := by decide +kernel
theorem dK0_lightestCover_100 : decode cK0_lightestCover 100 = .ok (.invokestatic 223, 3) := by decide +kernel
theorem dK0_lightestCover_103 : decode cK0_lightestCover 103 = .ok (.istore 4, 2) := by decide +kernel
theorem dK0_lightestCover_105 : decode cK0_lightestCover 105 = .ok (.iinc 5 1, 3) := by decide +kernel
theorem dK0_lightestCover_108 : decode cK0_lightestCover 108 = .ok (.goto (-87), 3) := by decide +kernel
theorem dK0_lightestCover_111 : decode cK0_lightestCover 111 = .ok (.aload_n 0, 1) := by decide +kernel
theorem dK0_lightestCover_112 : decode cK0_lightestCover 112 = .ok (.iconst 1, 1) := by decide +kernel
theorem dK0_lightestCover_113 : decode cK0_lightestCover 113 = .ok (.putfield 57, 3) := by decide +kernel
theorem dK0_lightestCover_116 : decode cK0_lightestCover 116 = .ok (.iload_n 2, 1) := by decide +kernel
theorem dK0_lightestCover_117 : decode cK0_lightestCover 117 = .ok (.ireturn, 1) := by decide +kernel
theorem dK0_putsAllRight_0 : decode cK0_putsAllRight 0 = .ok (.aload_n 0, 1) := by decide +kernel
theorem dK0_putsAllRight_1 : decode cK0_putsAllRight 1 = .ok (.iload_n 1, 1) := by decide +kernel
theorem dK0_putsAllRight_2 : decode cK0_putsAllRight 2 = .ok (.invokevirtual 159, 3) := by decide +kernel
theorem dK0_putsAllRight_5 : decode cK0_putsAllRight 5 = .ok (.iconst 0, 1) := by decide +kernel
theorem dK0_putsAllRight_6 : decode cK0_putsAllRight 6 = .ok (.istore_n 2, 1) := by decide +kernel
theorem dK0_putsAllRight_7 : decode cK0_putsAllRight 7 = .ok (.iload_n 2, 1) := by decide +kernel
theorem dK0_putsAllRight_8 : decode cK0_putsAllRight 8 = .ok (.aload_n 0, 1) := by decide +kernel
theorem dK0_putsAllRight_9 : decode cK0_putsAllRight 9 = .ok (.getfield 22, 3) := by decide +kernel
theorem dK0_putsAllRight_12 : decode cK0_putsAllRight 12 = .ok (.getfield 80, 3) := by decide +kernel
theorem dK0_putsAllRight_15 : decode cK0_putsAllRight 15 = .ok (.if_icmp .ge 26, 3) := by decide +kernel
theorem dK0_putsAllRight_18 : decode cK0_putsAllRight 18 = .ok (.aload_n 0, 1) := by decide +kernel
theorem dK0_putsAllRight_19 : decode cK0_putsAllRight 19 = .ok (.getfield 22, 3) := by decide +kernel
theorem dK0_putsAllRight_22 : decode cK0_putsAllRight 22 = .ok (.aload_n 0, 1) := by decide +kernel
theorem dK0_putsAllRight_23 : decode cK0_putsAllRight 23 = .ok (.getfield 16, 3) := by decide +kernel
theorem dK0_putsAllRight_26 : decode cK0_putsAllRight 26 = .ok (.iload_n 2, 1) := by decide +kernel
theorem dK0_putsAllRight_27 : decode cK0_putsAllRight 27 = .ok (.invokevirtual 83, 3) := by decide +kernel
theorem dK0_putsAllRight_30 : decode cK0_putsAllRight 30 = .ok (.ifCond .eq 5, 3) := by decide +kernel
theorem dK0_putsAllRight_33 : decode cK0_putsAllRight 33 = .ok (.iconst 0, 1) := by decide +kernel
theorem dK0_putsAllRight_34 : decode cK0_putsAllRight 34 = .ok (.ireturn, 1) := by decide +kernel
theorem dK0_putsAllRight_35 : decode cK0_putsAllRight 35 = .ok (.iinc 2 1, 3) := by decide +kernel
theorem dK0_putsAllRight_38 : decode cK0_putsAllRight 38 = .ok (.goto (-31), 3) := by decide +kernel
theorem dK0_putsAllRight_41 : decode cK0_putsAllRight 41 = .ok (.iconst 1, 1) := by decide +kernel
theorem dK0_putsAllRight_42 : decode cK0_putsAllRight 42 = .ok (.ireturn, 1) := by decide +kernel
theorem dK0_covered_0 : decode cK0_covered 0 = .ok (.aload_n 0, 1) := by decide +kernel
theorem dK0_covered_1 : decode cK0_covered 1 = .ok (.getfield 47, 3) := by decide +kernel
theorem dK0_covered_4 : decode cK0_covered 4 = .ok (.iload_n 1, 1) := by decide +kernel
theorem dK0_covered_5 : decode cK0_covered 5 = .ok (.invokestatic 153, 3) := by decide +kernel
theorem dK0_covered_8 : decode cK0_covered 8 = .ok (.ireturn, 1) := by decide +kernel
theorem dJ7_newLength_0 : decode cJ7_newLength 0 = .ok (.iload_n 0, 1) := by decide +kernel
theorem dJ7_newLength_1 : decode cJ7_newLength 1 = .ok (.iload_n 1, 1) := by decide +kernel
theorem dJ7_newLength_2 : decode cJ7_newLength 2 = .ok (.iload_n 2, 1) := by decide +kernel
theorem dJ7_newLength_3 : decode cJ7_newLength 3 = .ok (.invokestatic 194, 3) := by decide +kernel
theorem dJ7_hugeLength_0 : decode cJ7_hugeLength 0 = .ok (.iload_n 0, 1) := by decide +kernel
theorem dJ7_hugeLength_1 : decode cJ7_hugeLength 1 = .ok (.iload_n 1, 1) := by decide +kernel
theorem dJ7_hugeLength_2 : decode cJ7_hugeLength 2 = .ok (.iadd, 1) := by decide +kernel
theorem dJ7_hugeLength_3 : decode cJ7_hugeLength 3 = .ok (.istore_n 2, 1) := by decide +kernel
theorem dJ7_hugeLength_4 : decode cJ7_hugeLength 4 = .ok (.iload_n 2, 1) := by decide +kernel
theorem dJ7_hugeLength_5 : decode cJ7_hugeLength 5 = .ok (.ifCond .ge 44, 3) := by decide +kernel
theorem dJ7_hugeLength_8 : decode cJ7_hugeLength 8 = .ok (.new 204, 3) := by decide +kernel
theorem dJ7_hugeLength_49 : decode cJ7_hugeLength 49 = .ok (.iload_n 2, 1) := by decide +kernel
theorem dJ7_hugeLength_50 : decode cJ7_hugeLength 50 = .ok (.ldc 200, 2) := by decide +kernel
theorem dJ7_hugeLength_52 : decode cJ7_hugeLength 52 = .ok (.if_icmp .gt 6, 3) := by decide +kernel
theorem dJ7_hugeLength_55 : decode cJ7_hugeLength 55 = .ok (.ldc 200, 2) := by decide +kernel
theorem dJ7_hugeLength_57 : decode cJ7_hugeLength 57 = .ok (.ireturn, 1) := by decide +kernel
theorem dJ7_hugeLength_58 : decode cJ7_hugeLength 58 = .ok (.iload_n 2, 1) := by decide +kernel
theorem dJ7_hugeLength_59 : decode cJ7_hugeLength 59 = .ok (.ireturn, 1) := by decide +kernel
theorem dJ3_checkBoundsBeginEnd_0 : decode cJ3_checkBoundsBeginEnd 0 = .ok (.iload_n 0, 1) := by decide +kernel
theorem dJ3_checkBoundsBeginEnd_1 : decode cJ3_checkBoundsBeginEnd 1 = .ok (.iload_n 1, 1) := by decide +kernel
theorem dJ3_checkBoundsBeginEnd_2 : decode cJ3_checkBoundsBeginEnd 2 = .ok (.iload_n 2, 1) := by decide +kernel
theorem dJ3_checkBoundsBeginEnd_3 : decode cJ3_checkBoundsBeginEnd 3 = .ok (.getstatic 1053, 3) := by decide +kernel
theorem dJ3_checkBoundsOffCount_0 : decode cJ3_checkBoundsOffCount 0 = .ok (.iload_n 0, 1) := by decide +kernel
theorem dJ3_checkBoundsOffCount_1 : decode cJ3_checkBoundsOffCount 1 = .ok (.iload_n 1, 1) := by decide +kernel
theorem dJ3_checkBoundsOffCount_2 : decode cJ3_checkBoundsOffCount 2 = .ok (.iload_n 2, 1) := by decide +kernel
theorem dJ3_checkBoundsOffCount_3 : decode cJ3_checkBoundsOffCount 3 = .ok (.getstatic 1053, 3) := by decide +kernel
theorem dJ2_stringSize_0 : decode cJ2_stringSize 0 = .ok (.iconst 1, 1) := by decide +kernel
theorem dJ2_stringSize_1 : decode cJ2_stringSize 1 = .ok (.istore_n 1, 1) := by decide +kernel
theorem dJ2_stringSize_2 : decode cJ2_stringSize 2 = .ok (.iload_n 0, 1) := by decide +kernel
theorem dJ2_stringSize_3 : decode cJ2_stringSize 3 = .ok (.ifCond .lt 8, 3) := by decide +kernel
theorem dJ2_stringSize_6 : decode cJ2_stringSize 6 = .ok (.iconst 0, 1) := by decide +kernel
theorem dJ2_stringSize_7 : decode cJ2_stringSize 7 = .ok (.istore_n 1, 1) := by decide +kernel
theorem dJ2_stringSize_8 : decode cJ2_stringSize 8 = .ok (.iload_n 0, 1) := by decide +kernel
theorem dJ2_stringSize_9 : decode cJ2_stringSize 9 = .ok (.ineg, 1) := by decide +kernel
theorem dJ2_stringSize_10 : decode cJ2_stringSize 10 = .ok (.istore_n 0, 1) := by decide +kernel
theorem dJ2_stringSize_11 : decode cJ2_stringSize 11 = .ok (.bipush (-10), 2) := by decide +kernel
theorem dJ2_stringSize_13 : decode cJ2_stringSize 13 = .ok (.istore_n 2, 1) := by decide +kernel
theorem dJ2_stringSize_14 : decode cJ2_stringSize 14 = .ok (.iconst 1, 1) := by decide +kernel
theorem dJ2_stringSize_15 : decode cJ2_stringSize 15 = .ok (.istore_n 3, 1) := by decide +kernel
theorem dJ2_stringSize_16 : decode cJ2_stringSize 16 = .ok (.iload_n 3, 1) := by decide +kernel
theorem dJ2_stringSize_17 : decode cJ2_stringSize 17 = .ok (.bipush 10, 2) := by decide +kernel
theorem dJ2_stringSize_19 : decode cJ2_stringSize 19 = .ok (.if_icmp .ge 23, 3) := by decide +kernel
theorem dJ2_stringSize_22 : decode cJ2_stringSize 22 = .ok (.iload_n 0, 1) := by decide +kernel
theorem dJ2_stringSize_23 : decode cJ2_stringSize 23 = .ok (.iload_n 2, 1) := by decide +kernel
theorem dJ2_stringSize_24 : decode cJ2_stringSize 24 = .ok (.if_icmp .le 7, 3) := by decide +kernel
theorem dJ2_stringSize_27 : decode cJ2_stringSize 27 = .ok (.iload_n 3, 1) := by decide +kernel
theorem dJ2_stringSize_28 : decode cJ2_stringSize 28 = .ok (.iload_n 1, 1) := by decide +kernel
theorem dJ2_stringSize_29 : decode cJ2_stringSize 29 = .ok (.iadd, 1) := by decide +kernel
theorem dJ2_stringSize_30 : decode cJ2_stringSize 30 = .ok (.ireturn, 1) := by decide +kernel
theorem dJ2_stringSize_31 : decode cJ2_stringSize 31 = .ok (.bipush 10, 2) := by decide +kernel
theorem dJ2_stringSize_33 : decode cJ2_stringSize 33 = .ok (.iload_n 2, 1) := by decide +kernel
theorem dJ2_stringSize_34 : decode cJ2_stringSize 34 = .ok (.imul, 1) := by decide +kernel
theorem dJ2_stringSize_35 : decode cJ2_stringSize 35 = .ok (.istore_n 2, 1) := by decide +kernel
theorem dJ2_stringSize_36 : decode cJ2_stringSize 36 = .ok (.iinc 3 1, 3) := by decide +kernel
theorem dJ2_stringSize_39 : decode cJ2_stringSize 39 = .ok (.goto (-23), 3) := by decide +kernel
theorem dJ2_stringSize_42 : decode cJ2_stringSize 42 = .ok (.bipush 10, 2) := by decide +kernel
theorem dJ2_stringSize_44 : decode cJ2_stringSize 44 = .ok (.iload_n 1, 1) := by decide +kernel
theorem dJ2_stringSize_45 : decode cJ2_stringSize 45 = .ok (.iadd, 1) := by decide +kernel
theorem dJ2_stringSize_46 : decode cJ2_stringSize 46 = .ok (.ireturn, 1) := by decide +kernel
theorem dJ4_canEncode_0 : decode cJ4_canEncode 0 = .ok (.iload_n 0, 1) := by decide +kernel
theorem dJ4_canEncode_1 : decode cJ4_canEncode 1 = .ok (.sipush 255, 3) := by decide +kernel
theorem dJ4_canEncode_4 : decode cJ4_canEncode 4 = .ok (.if_icmp .gt 7, 3) := by decide +kernel
theorem dJ4_canEncode_7 : decode cJ4_canEncode 7 = .ok (.iconst 1, 1) := by decide +kernel
theorem dJ4_canEncode_8 : decode cJ4_canEncode 8 = .ok (.goto 4, 3) := by decide +kernel
theorem dJ4_canEncode_11 : decode cJ4_canEncode 11 = .ok (.iconst 0, 1) := by decide +kernel
theorem dJ4_canEncode_12 : decode cJ4_canEncode 12 = .ok (.ireturn, 1) := by decide +kernel
theorem dJ3_checkIndex_0 : decode cJ3_checkIndex 0 = .ok (.iload_n 0, 1) := by decide +kernel
theorem dJ3_checkIndex_1 : decode cJ3_checkIndex 1 = .ok (.iload_n 1, 1) := by decide +kernel
theorem dJ3_checkIndex_2 : decode cJ3_checkIndex 2 = .ok (.getstatic 1053, 3) := by decide +kernel
theorem dK5_init_0 : decode cK5_init 0 = .ok (.aload_n 0, 1) := by decide +kernel
theorem dK5_init_1 : decode cK5_init 1 = .ok (.invokespecial 1, 3) := by decide +kernel
theorem dK5_init_4 : decode cK5_init 4 = .ok (.aload_n 0, 1) := by decide +kernel
theorem dK5_init_5 : decode cK5_init 5 = .ok (.sipush 864, 3) := by decide +kernel
theorem dK5_init_8 : decode cK5_init 8 = .ok (.newarray .boolean, 2) := by decide +kernel
theorem dK5_init_10 : decode cK5_init 10 = .ok (.putfield 7, 3) := by decide +kernel
theorem dK5_init_13 : decode cK5_init 13 = .ok (.aload_n 0, 1) := by decide +kernel
theorem dK5_init_14 : decode cK5_init 14 = .ok (.sipush 864, 3) := by decide +kernel
theorem dK5_init_17 : decode cK5_init 17 = .ok (.newarray .boolean, 2) := by decide +kernel
theorem dK5_init_19 : decode cK5_init 19 = .ok (.putfield 13, 3) := by decide +kernel
theorem dK5_init_22 : decode cK5_init 22 = .ok (.aload_n 0, 1) := by decide +kernel
theorem dK5_init_23 : decode cK5_init 23 = .ok (.bipush 10, 2) := by decide +kernel
theorem dK5_init_25 : decode cK5_init 25 = .ok (.newarray .int, 2) := by decide +kernel
theorem dK5_init_27 : decode cK5_init 27 = .ok (.putfield 16, 3) := by decide +kernel
theorem dK5_init_30 : decode cK5_init 30 = .ok (.aload_n 0, 1) := by decide +kernel
theorem dK5_init_31 : decode cK5_init 31 = .ok (.bipush 10, 2) := by decide +kernel
theorem dK5_init_33 : decode cK5_init 33 = .ok (.newarray .int, 2) := by decide +kernel
theorem dK5_init_35 : decode cK5_init 35 = .ok (.putfield 20, 3) := by decide +kernel
theorem dK5_init_38 : decode cK5_init 38 = .ok (.aload_n 0, 1) := by decide +kernel
theorem dK5_init_39 : decode cK5_init 39 = .ok (.bipush 10, 2) := by decide +kernel
theorem dK5_init_41 : decode cK5_init 41 = .ok (.newarray .int, 2) := by decide +kernel
theorem dK5_init_43 : decode cK5_init 43 = .ok (.putfield 23, 3) := by decide +kernel
theorem dK5_init_46 : decode cK5_init 46 = .ok (.aload_n 0, 1) := by decide +kernel
theorem dK5_init_47 : decode cK5_init 47 = .ok (.bipush 10, 2) := by decide +kernel
theorem dK5_init_49 : decode cK5_init 49 = .ok (.newarray .int, 2) := by decide +kernel
theorem dK5_init_51 : decode cK5_init 51 = .ok (.putfield 26, 3) := by decide +kernel
theorem dK5_init_54 : decode cK5_init 54 = .ok (.aload_n 0, 1) := by decide +kernel
theorem dK5_init_55 : decode cK5_init 55 = .ok (.bipush 12, 2) := by decide +kernel
theorem dK5_init_57 : decode cK5_init 57 = .ok (.newarray .boolean, 2) := by decide +kernel
theorem dK5_init_59 : decode cK5_init 59 = .ok (.putfield 29, 3) := by decide +kernel
theorem dK5_init_62 : decode cK5_init 62 = .ok (.aload_n 0, 1) := by decide +kernel
theorem dK5_init_63 : decode cK5_init 63 = .ok (.bipush 12, 2) := by decide +kernel
theorem dK5_init_65 : decode cK5_init 65 = .ok (.newarray .int, 2) := by decide +kernel
theorem dK5_init_67 : decode cK5_init 67 = .ok (.putfield 32, 3) := by decide +kernel
theorem dK5_init_70 : decode cK5_init 70 = .ok (.aload_n 0, 1) := by decide +kernel
theorem dK5_init_71 : decode cK5_init 71 = .ok (.bipush 12, 2) := by decide +kernel
theorem dK5_init_73 : decode cK5_init 73 = .ok (.newarray .int, 2) := by decide +kernel
theorem dK5_init_75 : decode cK5_init 75 = .ok (.putfield 35, 3) := by decide +kernel
theorem dK5_init_78 : decode cK5_init 78 = .ok (.aload_n 0, 1) := by decide +kernel
theorem dK5_init_79 : decode cK5_init 79 = .ok (.sipush 500, 3) := by decide +kernel
theorem dK5_init_82 : decode cK5_init 82 = .ok (.putfield 38, 3) := by decide +kernel
theorem dK5_init_85 : decode cK5_init 85 = .ok (.aload_n 0, 1) := by decide +kernel
theorem dK5_init_86 : decode cK5_init 86 = .ok (.bipush 31, 2) := by decide +kernel
theorem dK5_init_88 : decode cK5_init 88 = .ok (.newarray .int, 2) := by decide +kernel
theorem dK5_init_90 : decode cK5_init 90 = .ok (.putfield 42, 3) := by decide +kernel
theorem dK5_init_93 : decode cK5_init 93 = .ok (.aload_n 0, 1) := by decide +kernel
theorem dK5_init_94 : decode cK5_init 94 = .ok (.bipush 12, 2) := by decide +kernel
theorem dK5_init_96 : decode cK5_init 96 = .ok (.newarray .int, 2) := by decide +kernel
theorem dK5_init_98 : decode cK5_init 98 = .ok (.putfield 45, 3) := by decide +kernel
theorem dK5_init_101 : decode cK5_init 101 = .ok (.aload_n 0, 1) := by decide +kernel
theorem dK5_init_102 : decode cK5_init 102 = .ok (.bipush 12, 2) := by decide +kernel
theorem dK5_init_104 : decode cK5_init 104 = .ok (.newarray .boolean, 2) := by decide +kernel
theorem dK5_init_106 : decode cK5_init 106 = .ok (.putfield 48, 3) := by decide +kernel
theorem dK5_init_109 : decode cK5_init 109 = .ok (.aload_n 0, 1) := by decide +kernel
theorem dK5_init_110 : decode cK5_init 110 = .ok (.bipush 12, 2) := by decide +kernel
theorem dK5_init_112 : decode cK5_init 112 = .ok (.newarray .int, 2) := by decide +kernel
theorem dK5_init_114 : decode cK5_init 114 = .ok (.putfield 51, 3) := by decide +kernel
theorem dK5_init_117 : decode cK5_init 117 = .ok (.aload_n 0, 1) := by decide +kernel
theorem dK5_init_118 : decode cK5_init 118 = .ok (.sipush 400, 3) := by decide +kernel
theorem dK5_init_121 : decode cK5_init 121 = .ok (.newarray .int, 2) := by decide +kernel
theorem dK5_init_123 : decode cK5_init 123 = .ok (.putfield 54, 3) := by decide +kernel
theorem dK5_init_126 : decode cK5_init 126 = .ok (.aload_n 0, 1) := by decide +kernel
theorem dK5_init_127 : decode cK5_init 127 = .ok (.iconst 0, 1) := by decide +kernel
theorem dK5_init_128 : decode cK5_init 128 = .ok (.putfield 57, 3) := by decide +kernel
theorem dK5_init_131 : decode cK5_init 131 = .ok (.return_, 1) := by decide +kernel
theorem dK5_triple_0 : decode cK5_triple 0 = .ok (.iload_n 1, 1) := by decide +kernel
theorem dK5_triple_1 : decode cK5_triple 1 = .ok (.iload_n 2, 1) := by decide +kernel
theorem dK5_triple_2 : decode cK5_triple 2 = .ok (.iload_n 3, 1) := by decide +kernel
theorem dK5_triple_3 : decode cK5_triple 3 = .ok (.invokestatic 65, 3) := by decide +kernel
theorem dK5_triple_6 : decode cK5_triple 6 = .ok (.ifCond .ne 5, 3) := by decide +kernel
theorem dK5_triple_9 : decode cK5_triple 9 = .ok (.iconst (-1), 1) := by decide +kernel
theorem dK5_triple_10 : decode cK5_triple 10 = .ok (.ireturn, 1) := by decide +kernel
theorem dK5_triple_11 : decode cK5_triple 11 = .ok (.aload_n 0, 1) := by decide +kernel
theorem dK5_triple_12 : decode cK5_triple 12 = .ok (.getfield 7, 3) := by decide +kernel
theorem dK5_triple_15 : decode cK5_triple 15 = .ok (.iload_n 1, 1) := by decide +kernel
theorem dK5_triple_16 : decode cK5_triple 16 = .ok (.iload_n 2, 1) := by decide +kernel
theorem dK5_triple_17 : decode cK5_triple 17 = .ok (.iload_n 3, 1) := by decide +kernel
theorem dK5_triple_18 : decode cK5_triple 18 = .ok (.invokestatic 68, 3) := by decide +kernel
theorem dK5_triple_21 : decode cK5_triple 21 = .ok (.baload, 1) := by decide +kernel
theorem dK5_triple_22 : decode cK5_triple 22 = .ok (.istore 4, 2) := by decide +kernel
theorem dK5_triple_24 : decode cK5_triple 24 = .ok (.aload_n 0, 1) := by decide +kernel
theorem dK5_triple_25 : decode cK5_triple 25 = .ok (.getfield 7, 3) := by decide +kernel
theorem dK5_triple_28 : decode cK5_triple 28 = .ok (.iload_n 1, 1) := by decide +kernel
theorem dK5_triple_29 : decode cK5_triple 29 = .ok (.iload_n 2, 1) := by decide +kernel
theorem dK5_triple_30 : decode cK5_triple 30 = .ok (.iload_n 3, 1) := by decide +kernel
theorem dK5_triple_31 : decode cK5_triple 31 = .ok (.invokestatic 68, 3) := by decide +kernel
theorem dK5_triple_34 : decode cK5_triple 34 = .ok (.iconst 1, 1) := by decide +kernel
theorem dK5_triple_35 : decode cK5_triple 35 = .ok (.bastore, 1) := by decide +kernel
theorem dK5_triple_36 : decode cK5_triple 36 = .ok (.iload 4, 2) := by decide +kernel
theorem dK5_triple_38 : decode cK5_triple 38 = .ok (.ifCond .eq 7, 3) := by decide +kernel
theorem dK5_triple_41 : decode cK5_triple 41 = .ok (.iconst 0, 1) := by decide +kernel
theorem dK5_triple_42 : decode cK5_triple 42 = .ok (.goto 4, 3) := by decide +kernel
theorem dK5_triple_45 : decode cK5_triple 45 = .ok (.iconst 1, 1) := by decide +kernel
theorem dK5_triple_46 : decode cK5_triple 46 = .ok (.ireturn, 1) := by decide +kernel
theorem dK5_isTriple_0 : decode cK5_isTriple 0 = .ok (.iload_n 0, 1) := by decide +kernel
theorem dK5_isTriple_1 : decode cK5_isTriple 1 = .ok (.iconst 0, 1) := by decide +kernel
theorem dK5_isTriple_2 : decode cK5_isTriple 2 = .ok (.bipush 11, 2) := by decide +kernel
theorem dK5_isTriple_4 : decode cK5_isTriple 4 = .ok (.invokestatic 61, 3) := by decide +kernel
theorem dK5_isTriple_7 : decode cK5_isTriple 7 = .ok (.ifCond .eq 26, 3) := by decide +kernel
theorem dK5_isTriple_10 : decode cK5_isTriple 10 = .ok (.iload_n 1, 1) := by decide +kernel
theorem dK5_isTriple_11 : decode cK5_isTriple 11 = .ok (.iconst 0, 1) := by decide +kernel
theorem dK5_isTriple_12 : decode cK5_isTriple 12 = .ok (.iconst 5, 1) := by decide +kernel
theorem dK5_isTriple_13 : decode cK5_isTriple 13 = .ok (.invokestatic 61, 3) := by decide +kernel
theorem dK5_isTriple_16 : decode cK5_isTriple 16 = .ok (.ifCond .eq 17, 3) := by decide +kernel
theorem dK5_isTriple_19 : decode cK5_isTriple 19 = .ok (.iload_n 2, 1) := by decide +kernel
theorem dK5_isTriple_20 : decode cK5_isTriple 20 = .ok (.iconst 0, 1) := by decide +kernel
theorem dK5_isTriple_21 : decode cK5_isTriple 21 = .ok (.bipush 11, 2) := by decide +kernel
theorem dK5_isTriple_23 : decode cK5_isTriple 23 = .ok (.invokestatic 61, 3) := by decide +kernel
theorem dK5_isTriple_26 : decode cK5_isTriple 26 = .ok (.ifCond .eq 7, 3) := by decide +kernel
theorem dK5_isTriple_29 : decode cK5_isTriple 29 = .ok (.iconst 1, 1) := by decide +kernel
theorem dK5_isTriple_30 : decode cK5_isTriple 30 = .ok (.goto 4, 3) := by decide +kernel
theorem dK5_isTriple_33 : decode cK5_isTriple 33 = .ok (.iconst 0, 1) := by decide +kernel
theorem dK5_isTriple_34 : decode cK5_isTriple 34 = .ok (.ireturn, 1) := by decide +kernel
theorem dK5_in_0 : decode cK5_in 0 = .ok (.iload_n 0, 1) := by decide +kernel
theorem dK5_in_1 : decode cK5_in 1 = .ok (.iload_n 1, 1) := by decide +kernel
theorem dK5_in_2 : decode cK5_in 2 = .ok (.if_icmp .lt 12, 3) := by decide +kernel
theorem dK5_in_5 : decode cK5_in 5 = .ok (.iload_n 0, 1) := by decide +kernel
theorem dK5_in_6 : decode cK5_in 6 = .ok (.iload_n 2, 1) := by decide +kernel
theorem dK5_in_7 : decode cK5_in 7 = .ok (.if_icmp .gt 7, 3) := by decide +kernel
theorem dK5_in_10 : decode cK5_in 10 = .ok (.iconst 1, 1) := by decide +kernel
theorem dK5_in_11 : decode cK5_in 11 = .ok (.goto 4, 3) := by decide +kernel
theorem dK5_in_14 : decode cK5_in 14 = .ok (.iconst 0, 1) := by decide +kernel
theorem dK5_in_15 : decode cK5_in 15 = .ok (.ireturn, 1) := by decide +kernel
theorem dK5_codeOf_0 : decode cK5_codeOf 0 = .ok (.bipush 72, 2) := by decide +kernel
theorem dK5_codeOf_2 : decode cK5_codeOf 2 = .ok (.iload_n 0, 1) := by decide +kernel
theorem dK5_codeOf_3 : decode cK5_codeOf 3 = .ok (.imul, 1) := by decide +kernel
theorem dK5_codeOf_4 : decode cK5_codeOf 4 = .ok (.bipush 12, 2) := by decide +kernel
theorem dK5_codeOf_6 : decode cK5_codeOf 6 = .ok (.iload_n 1, 1) := by decide +kernel
theorem dK5_codeOf_7 : decode cK5_codeOf 7 = .ok (.imul, 1) := by decide +kernel
theorem dK5_codeOf_8 : decode cK5_codeOf 8 = .ok (.iadd, 1) := by decide +kernel
theorem dK5_codeOf_9 : decode cK5_codeOf 9 = .ok (.iload_n 2, 1) := by decide +kernel
theorem dK5_codeOf_10 : decode cK5_codeOf 10 = .ok (.iadd, 1) := by decide +kernel
theorem dK5_codeOf_11 : decode cK5_codeOf 11 = .ok (.ireturn, 1) := by decide +kernel
theorem dK5_drop_0 : decode cK5_drop 0 = .ok (.iload_n 1, 1) := by decide +kernel
theorem dK5_drop_1 : decode cK5_drop 1 = .ok (.iload_n 2, 1) := by decide +kernel
theorem dK5_drop_2 : decode cK5_drop 2 = .ok (.iload_n 3, 1) := by decide +kernel
theorem dK5_drop_3 : decode cK5_drop 3 = .ok (.invokestatic 65, 3) := by decide +kernel
theorem dK5_drop_6 : decode cK5_drop 6 = .ok (.ifCond .ne 5, 3) := by decide +kernel
theorem dK5_drop_9 : decode cK5_drop 9 = .ok (.iconst (-1), 1) := by decide +kernel
theorem dK5_drop_10 : decode cK5_drop 10 = .ok (.ireturn, 1) := by decide +kernel
theorem dK5_drop_11 : decode cK5_drop 11 = .ok (.aload_n 0, 1) := by decide +kernel
theorem dK5_drop_12 : decode cK5_drop 12 = .ok (.getfield 7, 3) := by decide +kernel
theorem dK5_drop_15 : decode cK5_drop 15 = .ok (.iload_n 1, 1) := by decide +kernel
theorem dK5_drop_16 : decode cK5_drop 16 = .ok (.iload_n 2, 1) := by decide +kernel
theorem dK5_drop_17 : decode cK5_drop 17 = .ok (.iload_n 3, 1) := by decide +kernel
theorem dK5_drop_18 : decode cK5_drop 18 = .ok (.invokestatic 68, 3) := by decide +kernel
theorem dK5_drop_21 : decode cK5_drop 21 = .ok (.baload, 1) := by decide +kernel
theorem dK5_drop_22 : decode cK5_drop 22 = .ok (.istore 4, 2) := by decide +kernel
theorem dK5_drop_24 : decode cK5_drop 24 = .ok (.aload_n 0, 1) := by decide +kernel
theorem dK5_drop_25 : decode cK5_drop 25 = .ok (.getfield 7, 3) := by decide +kernel
theorem dK5_drop_28 : decode cK5_drop 28 = .ok (.iload_n 1, 1) := by decide +kernel
theorem dK5_drop_29 : decode cK5_drop 29 = .ok (.iload_n 2, 1) := by decide +kernel
theorem dK5_drop_30 : decode cK5_drop 30 = .ok (.iload_n 3, 1) := by decide +kernel
theorem dK5_drop_31 : decode cK5_drop 31 = .ok (.invokestatic 68, 3) := by decide +kernel
theorem dK5_drop_34 : decode cK5_drop 34 = .ok (.iconst 0, 1) := by decide +kernel
theorem dK5_drop_35 : decode cK5_drop 35 = .ok (.bastore, 1) := by decide +kernel
theorem dK5_drop_36 : decode cK5_drop 36 = .ok (.iload 4, 2) := by decide +kernel
theorem dK5_drop_38 : decode cK5_drop 38 = .ok (.ifCond .eq 7, 3) := by decide +kernel
theorem dK5_drop_41 : decode cK5_drop 41 = .ok (.iconst 1, 1) := by decide +kernel
theorem dK5_drop_42 : decode cK5_drop 42 = .ok (.goto 4, 3) := by decide +kernel
theorem dK5_drop_45 : decode cK5_drop 45 = .ok (.iconst 0, 1) := by decide +kernel
theorem dK5_drop_46 : decode cK5_drop 46 = .ok (.ireturn, 1) := by decide +kernel
theorem dK5_rule_0 : decode cK5_rule 0 = .ok (.iload_n 1, 1) := by decide +kernel
theorem dK5_rule_1 : decode cK5_rule 1 = .ok (.iconst 2, 1) := by decide +kernel
theorem dK5_rule_2 : decode cK5_rule 2 = .ok (.if_icmp .ge 8, 3) := by decide +kernel
theorem dK5_rule_5 : decode cK5_rule 5 = .ok (.bipush 12, 2) := by decide +kernel
theorem dK5_rule_7 : decode cK5_rule 7 = .ok (.goto 14, 3) := by decide +kernel
theorem dK5_rule_10 : decode cK5_rule 10 = .ok (.iload_n 1, 1) := by decide +kernel
theorem dK5_rule_11 : decode cK5_rule 11 = .ok (.iconst 4, 1) := by decide +kernel
theorem dK5_rule_12 : decode cK5_rule 12 = .ok (.if_icmp .ge 8, 3) := by decide +kernel
theorem dK5_rule_15 : decode cK5_rule 15 = .ok (.bipush 11, 2) := by decide +kernel
theorem dK5_rule_17 : decode cK5_rule 17 = .ok (.goto 4, 3) := by decide +kernel
theorem dK5_rule_20 : decode cK5_rule 20 = .ok (.iconst 5, 1) := by decide +kernel
theorem dK5_rule_21 : decode cK5_rule 21 = .ok (.istore 5, 2) := by decide +kernel
theorem dK5_rule_23 : decode cK5_rule 23 = .ok (.iload_n 1, 1) := by decide +kernel
theorem dK5_rule_24 : decode cK5_rule 24 = .ok (.iconst 0, 1) := by decide +kernel
theorem dK5_rule_25 : decode cK5_rule 25 = .ok (.iconst 5, 1) := by decide +kernel
theorem dK5_rule_26 : decode cK5_rule 26 = .ok (.invokestatic 61, 3) := by decide +kernel
theorem dK5_rule_29 : decode cK5_rule 29 = .ok (.ifCond .eq 33, 3) := by decide +kernel
theorem dK5_rule_32 : decode cK5_rule 32 = .ok (.iload_n 2, 1) := by decide +kernel
theorem dK5_rule_33 : decode cK5_rule 33 = .ok (.iconst 0, 1) := by decide +kernel
theorem dK5_rule_34 : decode cK5_rule 34 = .ok (.bipush 11, 2) := by decide +kernel
theorem dK5_rule_36 : decode cK5_rule 36 = .ok (.invokestatic 61, 3) := by decide +kernel
theorem dK5_rule_39 : decode cK5_rule 39 = .ok (.ifCond .eq 23, 3) := by decide +kernel
theorem dK5_rule_42 : decode cK5_rule 42 = .ok (.iload_n 3, 1) := by decide +kernel
theorem dK5_rule_43 : decode cK5_rule 43 = .ok (.iconst 0, 1) := by decide +kernel
theorem dK5_rule_44 : decode cK5_rule 44 = .ok (.iconst 5, 1) := by decide +kernel
theorem dK5_rule_45 : decode cK5_rule 45 = .ok (.invokestatic 61, 3) := by decide +kernel
theorem dK5_rule_48 : decode cK5_rule 48 = .ok (.ifCond .eq 14, 3) := by decide +kernel
theorem dK5_rule_51 : decode cK5_rule 51 = .ok (.iload 4, 2) := by decide +kernel
theorem dK5_rule_53 : decode cK5_rule 53 = .ok (.iconst 0, 1) := by decide +kernel
theorem dK5_rule_54 : decode cK5_rule 54 = .ok (.iload 5, 2) := by decide +kernel
theorem dK5_rule_56 : decode cK5_rule 56 = .ok (.invokestatic 61, 3) := by decide +kernel
theorem dK5_rule_59 : decode cK5_rule 59 = .ok (.ifCond .ne 5, 3) := by decide +kernel
theorem dK5_rule_62 : decode cK5_rule 62 = .ok (.iconst (-1), 1) := by decide +kernel
theorem dK5_rule_63 : decode cK5_rule 63 = .ok (.ireturn, 1) := by decide +kernel
theorem dK5_rule_64 : decode cK5_rule 64 = .ok (.aload_n 0, 1) := by decide +kernel
theorem dK5_rule_65 : decode cK5_rule 65 = .ok (.getfield 72, 3) := by decide +kernel
theorem dK5_rule_68 : decode cK5_rule 68 = .ok (.bipush 10, 2) := by decide +kernel
theorem dK5_rule_70 : decode cK5_rule 70 = .ok (.if_icmp .ne 6, 3) := by decide +kernel
theorem dK5_rule_73 : decode cK5_rule 73 = .ok (.bipush (-3), 2) := by decide +kernel
