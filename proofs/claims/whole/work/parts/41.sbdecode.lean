theorem dK0_sentence_0 : decode cK0_sentence 0 = .ok (.aload_n 0, 1) := by decide +kernel
theorem dK0_sentence_1 : decode cK0_sentence 1 = .ok (.getfield 36, 3) := by decide +kernel
theorem dK0_sentence_4 : decode cK0_sentence 4 = .ok (.iload_n 1, 1) := by decide +kernel
theorem dK0_sentence_5 : decode cK0_sentence 5 = .ok (.invokevirtual 150, 3) := by decide +kernel
theorem dK0_sentence_8 : decode cK0_sentence 8 = .ok (.istore_n 2, 1) := by decide +kernel
theorem dK0_sentence_9 : decode cK0_sentence 9 = .ok (.iload_n 2, 1) := by decide +kernel
theorem dK0_sentence_10 : decode cK0_sentence 10 = .ok (.ifCond .ne 6, 3) := by decide +kernel
theorem dK0_sentence_13 : decode cK0_sentence 13 = .ok (.bipush (-2), 2) := by decide +kernel
theorem dK0_sentence_15 : decode cK0_sentence 15 = .ok (.ireturn, 1) := by decide +kernel
theorem dK0_sentence_16 : decode cK0_sentence 16 = .ok (.aload_n 0, 1) := by decide +kernel
theorem dK0_sentence_17 : decode cK0_sentence 17 = .ok (.getfield 43, 3) := by decide +kernel
theorem dK0_sentence_20 : decode cK0_sentence 20 = .ok (.iconst 0, 1) := by decide +kernel
theorem dK0_sentence_21 : decode cK0_sentence 21 = .ok (.invokevirtual 177, 3) := by decide +kernel
theorem dK0_sentence_24 : decode cK0_sentence 24 = .ok (.iconst 0, 1) := by decide +kernel
theorem dK0_sentence_25 : decode cK0_sentence 25 = .ok (.istore_n 3, 1) := by decide +kernel
theorem dK0_sentence_26 : decode cK0_sentence 26 = .ok (.iload_n 3, 1) := by decide +kernel
theorem dK0_sentence_27 : decode cK0_sentence 27 = .ok (.aload_n 0, 1) := by decide +kernel
theorem dK0_sentence_28 : decode cK0_sentence 28 = .ok (.getfield 29, 3) := by decide +kernel
theorem dK0_sentence_31 : decode cK0_sentence 31 = .ok (.getfield 121, 3) := by decide +kernel
theorem dK0_sentence_34 : decode cK0_sentence 34 = .ok (.if_icmp .ge 49, 3) := by decide +kernel
theorem dK0_sentence_37 : decode cK0_sentence 37 = .ok (.iload_n 2, 1) := by decide +kernel
theorem dK0_sentence_38 : decode cK0_sentence 38 = .ok (.iload_n 3, 1) := by decide +kernel
theorem dK0_sentence_39 : decode cK0_sentence 39 = .ok (.invokestatic 180, 3) := by decide +kernel
theorem dK0_sentence_42 : decode cK0_sentence 42 = .ok (.ifCond .eq 35, 3) := by decide +kernel
theorem dK0_sentence_45 : decode cK0_sentence 45 = .ok (.aload_n 0, 1) := by decide +kernel
theorem dK0_sentence_46 : decode cK0_sentence 46 = .ok (.getfield 43, 3) := by decide +kernel
theorem dK0_sentence_49 : decode cK0_sentence 49 = .ok (.invokevirtual 183, 3) := by decide +kernel
theorem dK0_sentence_52 : decode cK0_sentence 52 = .ok (.ifCond .le 13, 3) := by decide +kernel
theorem dK0_sentence_55 : decode cK0_sentence 55 = .ok (.aload_n 0, 1) := by decide +kernel
theorem dK0_sentence_56 : decode cK0_sentence 56 = .ok (.getfield 43, 3) := by decide +kernel
theorem dK0_sentence_59 : decode cK0_sentence 59 = .ok (.ldc 186, 2) := by decide +kernel
theorem dK0_sentence_61 : decode cK0_sentence 61 = .ok (.invokevirtual 188, 3) := by decide +kernel
theorem dK0_sentence_64 : decode cK0_sentence 64 = .ok (.pop, 1) := by decide +kernel
theorem dK0_sentence_65 : decode cK0_sentence 65 = .ok (.aload_n 0, 1) := by decide +kernel
theorem dK0_sentence_66 : decode cK0_sentence 66 = .ok (.getfield 29, 3) := by decide +kernel
theorem dK0_sentence_69 : decode cK0_sentence 69 = .ok (.iload_n 3, 1) := by decide +kernel
theorem dK0_sentence_70 : decode cK0_sentence 70 = .ok (.aload_n 0, 1) := by decide +kernel
theorem dK0_sentence_71 : decode cK0_sentence 71 = .ok (.getfield 43, 3) := by decide +kernel
theorem dK0_sentence_74 : decode cK0_sentence 74 = .ok (.invokevirtual 192, 3) := by decide +kernel
theorem dK0_sentence_77 : decode cK0_sentence 77 = .ok (.iinc 3 1, 3) := by decide +kernel
theorem dK0_sentence_80 : decode cK0_sentence 80 = .ok (.goto (-54), 3) := by decide +kernel
theorem dK0_sentence_83 : decode cK0_sentence 83 = .ok (.aload_n 0, 1) := by decide +kernel
theorem dK0_sentence_84 : decode cK0_sentence 84 = .ok (.getfield 43, 3) := by decide +kernel
theorem dK0_sentence_87 : decode cK0_sentence 87 = .ok (.bipush 46, 2) := by decide +kernel
theorem dK0_sentence_89 : decode cK0_sentence 89 = .ok (.invokevirtual 196, 3) := by decide +kernel
theorem dK0_sentence_92 : decode cK0_sentence 92 = .ok (.pop, 1) := by decide +kernel
theorem dK0_sentence_93 : decode cK0_sentence 93 = .ok (.aload_n 0, 1) := by decide +kernel
theorem dK0_sentence_94 : decode cK0_sentence 94 = .ok (.getfield 43, 3) := by decide +kernel
theorem dK0_sentence_97 : decode cK0_sentence 97 = .ok (.invokevirtual 183, 3) := by decide +kernel
theorem dK0_sentence_100 : decode cK0_sentence 100 = .ok (.ireturn, 1) := by decide +kernel
theorem dK6_setLength_0 : decode cK6_setLength 0 = .ok (.aload_n 0, 1) := by decide +kernel
theorem dK6_setLength_1 : decode cK6_setLength 1 = .ok (.iload_n 1, 1) := by decide +kernel
theorem dK6_setLength_2 : decode cK6_setLength 2 = .ok (.invokespecial 333, 3) := by decide +kernel
theorem dK6_setLength_5 : decode cK6_setLength 5 = .ok (.return_, 1) := by decide +kernel
theorem dJ1_setLength_0 : decode cJ1_setLength 0 = .ok (.iload_n 1, 1) := by decide +kernel
theorem dJ1_setLength_1 : decode cJ1_setLength 1 = .ok (.ifCond .ge 12, 3) := by decide +kernel
theorem dJ1_setLength_4 : decode cJ1_setLength 4 = .ok (.new 129, 3) := by decide +kernel
theorem dJ1_setLength_13 : decode cJ1_setLength 13 = .ok (.aload_n 0, 1) := by decide +kernel
theorem dJ1_setLength_14 : decode cJ1_setLength 14 = .ok (.iload_n 1, 1) := by decide +kernel
theorem dJ1_setLength_15 : decode cJ1_setLength 15 = .ok (.invokevirtual 100, 3) := by decide +kernel
theorem dJ1_setLength_18 : decode cJ1_setLength 18 = .ok (.aload_n 0, 1) := by decide +kernel
theorem dJ1_setLength_19 : decode cJ1_setLength 19 = .ok (.getfield 79, 3) := by decide +kernel
theorem dJ1_setLength_22 : decode cJ1_setLength 22 = .ok (.iload_n 1, 1) := by decide +kernel
theorem dJ1_setLength_23 : decode cJ1_setLength 23 = .ok (.if_icmp .ge 40, 3) := by decide +kernel
theorem dJ1_setLength_26 : decode cJ1_setLength 26 = .ok (.aload_n 0, 1) := by decide +kernel
theorem dJ1_setLength_27 : decode cJ1_setLength 27 = .ok (.invokevirtual 83, 3) := by decide +kernel
theorem dJ1_setLength_30 : decode cJ1_setLength 30 = .ok (.ifCond .eq 18, 3) := by decide +kernel
theorem dJ1_setLength_33 : decode cJ1_setLength 33 = .ok (.aload_n 0, 1) := by decide +kernel
theorem dJ1_setLength_34 : decode cJ1_setLength 34 = .ok (.getfield 15, 3) := by decide +kernel
theorem dJ1_setLength_37 : decode cJ1_setLength 37 = .ok (.aload_n 0, 1) := by decide +kernel
theorem dJ1_setLength_38 : decode cJ1_setLength 38 = .ok (.getfield 79, 3) := by decide +kernel
theorem dJ1_setLength_41 : decode cJ1_setLength 41 = .ok (.iload_n 1, 1) := by decide +kernel
theorem dJ1_setLength_42 : decode cJ1_setLength 42 = .ok (.invokestatic 133, 3) := by decide +kernel
theorem dJ1_setLength_48 : decode cJ1_setLength 48 = .ok (.aload_n 0, 1) := by decide +kernel
theorem dJ1_setLength_49 : decode cJ1_setLength 49 = .ok (.getfield 15, 3) := by decide +kernel
theorem dJ1_setLength_52 : decode cJ1_setLength 52 = .ok (.aload_n 0, 1) := by decide +kernel
theorem dJ1_setLength_53 : decode cJ1_setLength 53 = .ok (.getfield 79, 3) := by decide +kernel
theorem dJ1_setLength_56 : decode cJ1_setLength 56 = .ok (.iload_n 1, 1) := by decide +kernel
theorem dJ1_setLength_57 : decode cJ1_setLength 57 = .ok (.invokestatic 137, 3) := by decide +kernel
theorem dJ1_setLength_63 : decode cJ1_setLength 63 = .ok (.aload_n 0, 1) := by decide +kernel
theorem dJ1_setLength_64 : decode cJ1_setLength 64 = .ok (.getfield 79, 3) := by decide +kernel
theorem dJ1_setLength_67 : decode cJ1_setLength 67 = .ok (.iload_n 1, 1) := by decide +kernel
theorem dJ1_setLength_68 : decode cJ1_setLength 68 = .ok (.if_icmp .le 8, 3) := by decide +kernel
theorem dJ1_setLength_71 : decode cJ1_setLength 71 = .ok (.aload_n 0, 1) := by decide +kernel
theorem dJ1_setLength_72 : decode cJ1_setLength 72 = .ok (.iconst 1, 1) := by decide +kernel
theorem dJ1_setLength_73 : decode cJ1_setLength 73 = .ok (.putfield 73, 3) := by decide +kernel
theorem dJ1_setLength_76 : decode cJ1_setLength 76 = .ok (.aload_n 0, 1) := by decide +kernel
theorem dJ1_setLength_77 : decode cJ1_setLength 77 = .ok (.iload_n 1, 1) := by decide +kernel
theorem dJ1_setLength_78 : decode cJ1_setLength 78 = .ok (.putfield 79, 3) := by decide +kernel
theorem dJ1_setLength_81 : decode cJ1_setLength 81 = .ok (.return_, 1) := by decide +kernel
theorem dJ1_ens0_0 : decode cJ1_ensureCapacityInternal 0 = .ok (.aload_n 0, 1) := by decide +kernel
theorem dJ1_ens0_1 : decode cJ1_ensureCapacityInternal 1 = .ok (.getfield 15, 3) := by decide +kernel
theorem dJ1_ens0_4 : decode cJ1_ensureCapacityInternal 4 = .ok (.arraylength, 1) := by decide +kernel
theorem dJ1_ens0_5 : decode cJ1_ensureCapacityInternal 5 = .ok (.aload_n 0, 1) := by decide +kernel
theorem dJ1_ens0_6 : decode cJ1_ensureCapacityInternal 6 = .ok (.getfield 22, 3) := by decide +kernel
theorem dJ1_ens0_9 : decode cJ1_ensureCapacityInternal 9 = .ok (.ishr, 1) := by decide +kernel
theorem dJ1_ens0_10 : decode cJ1_ensureCapacityInternal 10 = .ok (.istore_n 2, 1) := by decide +kernel
theorem dJ1_ens0_11 : decode cJ1_ensureCapacityInternal 11 = .ok (.iload_n 1, 1) := by decide +kernel
theorem dJ1_ens0_12 : decode cJ1_ensureCapacityInternal 12 = .ok (.iload_n 2, 1) := by decide +kernel
theorem dJ1_ens0_13 : decode cJ1_ensureCapacityInternal 13 = .ok (.isub, 1) := by decide +kernel
theorem dJ1_ens0_14 : decode cJ1_ensureCapacityInternal 14 = .ok (.ifCond .le 24, 3) := by decide +kernel
theorem dJ1_ens0_17 : decode cJ1_ensureCapacityInternal 17 = .ok (.aload_n 0, 1) := by decide +kernel
theorem dJ1_ens0_18 : decode cJ1_ensureCapacityInternal 18 = .ok (.aload_n 0, 1) := by decide +kernel
theorem dJ1_ens0_19 : decode cJ1_ensureCapacityInternal 19 = .ok (.getfield 15, 3) := by decide +kernel
theorem dJ1_ens0_22 : decode cJ1_ensureCapacityInternal 22 = .ok (.aload_n 0, 1) := by decide +kernel
theorem dJ1_ens0_23 : decode cJ1_ensureCapacityInternal 23 = .ok (.iload_n 1, 1) := by decide +kernel
theorem dJ1_ens0_24 : decode cJ1_ensureCapacityInternal 24 = .ok (.invokevirtual 104, 3) := by decide +kernel
theorem dJ1_ens0_27 : decode cJ1_ensureCapacityInternal 27 = .ok (.aload_n 0, 1) := by decide +kernel
theorem dJ1_ens0_28 : decode cJ1_ensureCapacityInternal 28 = .ok (.getfield 22, 3) := by decide +kernel
theorem dJ1_ens0_31 : decode cJ1_ensureCapacityInternal 31 = .ok (.ishl, 1) := by decide +kernel
theorem dJ1_ens0_32 : decode cJ1_ensureCapacityInternal 32 = .ok (.invokestatic 108, 3) := by decide +kernel
theorem dJ1_ens0_35 : decode cJ1_ensureCapacityInternal 35 = .ok (.putfield 15, 3) := by decide +kernel
theorem dJ1_ens0_38 : decode cJ1_ensureCapacityInternal 38 = .ok (.return_, 1) := by decide +kernel
theorem dJ1_newCapacity_0 : decode cJ1_newCapacity 0 = .ok (.aload_n 0, 1) := by decide +kernel
theorem dJ1_newCapacity_1 : decode cJ1_newCapacity 1 = .ok (.getfield 15, 3) := by decide +kernel
theorem dJ1_newCapacity_4 : decode cJ1_newCapacity 4 = .ok (.arraylength, 1) := by decide +kernel
theorem dJ1_newCapacity_5 : decode cJ1_newCapacity 5 = .ok (.istore_n 2, 1) := by decide +kernel
theorem dJ1_newCapacity_6 : decode cJ1_newCapacity 6 = .ok (.iload_n 1, 1) := by decide +kernel
theorem dJ1_newCapacity_7 : decode cJ1_newCapacity 7 = .ok (.aload_n 0, 1) := by decide +kernel
theorem dJ1_newCapacity_8 : decode cJ1_newCapacity 8 = .ok (.getfield 22, 3) := by decide +kernel
theorem dJ1_newCapacity_11 : decode cJ1_newCapacity 11 = .ok (.ishl, 1) := by decide +kernel
theorem dJ1_newCapacity_12 : decode cJ1_newCapacity 12 = .ok (.istore_n 3, 1) := by decide +kernel
theorem dJ1_newCapacity_13 : decode cJ1_newCapacity 13 = .ok (.iload_n 3, 1) := by decide +kernel
theorem dJ1_newCapacity_14 : decode cJ1_newCapacity 14 = .ok (.iload_n 2, 1) := by decide +kernel
theorem dJ1_newCapacity_15 : decode cJ1_newCapacity 15 = .ok (.isub, 1) := by decide +kernel
theorem dJ1_newCapacity_16 : decode cJ1_newCapacity 16 = .ok (.istore 4, 2) := by decide +kernel
theorem dJ1_newCapacity_18 : decode cJ1_newCapacity 18 = .ok (.iload_n 2, 1) := by decide +kernel
theorem dJ1_newCapacity_19 : decode cJ1_newCapacity 19 = .ok (.iload 4, 2) := by decide +kernel
theorem dJ1_newCapacity_21 : decode cJ1_newCapacity 21 = .ok (.iload_n 2, 1) := by decide +kernel
theorem dJ1_newCapacity_22 : decode cJ1_newCapacity 22 = .ok (.iconst 2, 1) := by decide +kernel
theorem dJ1_newCapacity_23 : decode cJ1_newCapacity 23 = .ok (.aload_n 0, 1) := by decide +kernel
theorem dJ1_newCapacity_24 : decode cJ1_newCapacity 24 = .ok (.getfield 22, 3) := by decide +kernel
theorem dJ1_newCapacity_27 : decode cJ1_newCapacity 27 = .ok (.ishl, 1) := by decide +kernel
theorem dJ1_newCapacity_28 : decode cJ1_newCapacity 28 = .ok (.iadd, 1) := by decide +kernel
theorem dJ1_newCapacity_29 : decode cJ1_newCapacity 29 = .ok (.invokestatic 114, 3) := by decide +kernel
theorem dJ1_newCapacity_32 : decode cJ1_newCapacity 32 = .ok (.istore 5, 2) := by decide +kernel
theorem dJ1_newCapacity_34 : decode cJ1_newCapacity 34 = .ok (.iload 5, 2) := by decide +kernel
theorem dJ1_newCapacity_36 : decode cJ1_newCapacity 36 = .ok (.ldc 39, 2) := by decide +kernel
theorem dJ1_newCapacity_38 : decode cJ1_newCapacity 38 = .ok (.if_icmp .ne 13, 3) := by decide +kernel
theorem dJ1_newCapacity_41 : decode cJ1_newCapacity 41 = .ok (.new 120, 3) := by decide +kernel
theorem dJ1_newCapacity_51 : decode cJ1_newCapacity 51 = .ok (.iload 5, 2) := by decide +kernel
theorem dJ1_newCapacity_53 : decode cJ1_newCapacity 53 = .ok (.aload_n 0, 1) := by decide +kernel
theorem dJ1_newCapacity_54 : decode cJ1_newCapacity 54 = .ok (.getfield 22, 3) := by decide +kernel
theorem dJ1_newCapacity_57 : decode cJ1_newCapacity 57 = .ok (.ishr, 1) := by decide +kernel
theorem dJ1_newCapacity_58 : decode cJ1_newCapacity 58 = .ok (.ireturn, 1) := by decide +kernel
theorem dJ7_newLength_6 : decode cJ7_newLength 6 = .ok (.iadd, 1) := by decide +kernel
theorem dJ7_newLength_7 : decode cJ7_newLength 7 = .ok (.istore_n 3, 1) := by decide +kernel
theorem dJ7_newLength_8 : decode cJ7_newLength 8 = .ok (.iconst 0, 1) := by decide +kernel
theorem dJ7_newLength_9 : decode cJ7_newLength 9 = .ok (.iload_n 3, 1) := by decide +kernel
theorem dJ7_newLength_10 : decode cJ7_newLength 10 = .ok (.if_icmp .ge 11, 3) := by decide +kernel
theorem dJ7_newLength_13 : decode cJ7_newLength 13 = .ok (.iload_n 3, 1) := by decide +kernel
theorem dJ7_newLength_14 : decode cJ7_newLength 14 = .ok (.ldc 200, 2) := by decide +kernel
theorem dJ7_newLength_16 : decode cJ7_newLength 16 = .ok (.if_icmp .gt 5, 3) := by decide +kernel
theorem dJ7_newLength_19 : decode cJ7_newLength 19 = .ok (.iload_n 3, 1) := by decide +kernel
theorem dJ7_newLength_20 : decode cJ7_newLength 20 = .ok (.ireturn, 1) := by decide +kernel
theorem dJ7_newLength_21 : decode cJ7_newLength 21 = .ok (.iload_n 0, 1) := by decide +kernel
theorem dJ7_newLength_22 : decode cJ7_newLength 22 = .ok (.iload_n 1, 1) := by decide +kernel
theorem dJ7_newLength_23 : decode cJ7_newLength 23 = .ok (.invokestatic 201, 3) := by decide +kernel
theorem dJ6_copyOf_0 : decode cJ6_copyOf 0 = .ok (.iload_n 1, 1) := by decide +kernel
theorem dJ6_copyOf_1 : decode cJ6_copyOf 1 = .ok (.aload_n 0, 1) := by decide +kernel
theorem dJ6_copyOf_2 : decode cJ6_copyOf 2 = .ok (.arraylength, 1) := by decide +kernel
theorem dJ6_copyOf_3 : decode cJ6_copyOf 3 = .ok (.if_icmp .ne 11, 3) := by decide +kernel
theorem dJ6_copyOf_14 : decode cJ6_copyOf 14 = .ok (.iload_n 1, 1) := by decide +kernel
theorem dJ6_copyOf_15 : decode cJ6_copyOf 15 = .ok (.newarray .byte, 2) := by decide +kernel
theorem dJ6_copyOf_17 : decode cJ6_copyOf 17 = .ok (.astore_n 2, 1) := by decide +kernel
theorem dJ6_copyOf_18 : decode cJ6_copyOf 18 = .ok (.aload_n 0, 1) := by decide +kernel
theorem dJ6_copyOf_19 : decode cJ6_copyOf 19 = .ok (.iconst 0, 1) := by decide +kernel
theorem dJ6_copyOf_20 : decode cJ6_copyOf 20 = .ok (.aload_n 2, 1) := by decide +kernel
theorem dJ6_copyOf_21 : decode cJ6_copyOf 21 = .ok (.iconst 0, 1) := by decide +kernel
theorem dJ6_copyOf_22 : decode cJ6_copyOf 22 = .ok (.aload_n 0, 1) := by decide +kernel
theorem dJ6_copyOf_23 : decode cJ6_copyOf 23 = .ok (.arraylength, 1) := by decide +kernel
theorem dJ6_copyOf_24 : decode cJ6_copyOf 24 = .ok (.iload_n 1, 1) := by decide +kernel
theorem dJ6_copyOf_25 : decode cJ6_copyOf 25 = .ok (.invokestatic 304, 3) := by decide +kernel
theorem dJ6_copyOf_28 : decode cJ6_copyOf 28 = .ok (.invokestatic 150, 3) := by decide +kernel
theorem dJ6_copyOf_31 : decode cJ6_copyOf 31 = .ok (.aload_n 2, 1) := by decide +kernel
theorem dJ6_copyOf_32 : decode cJ6_copyOf 32 = .ok (.areturn, 1) := by decide +kernel
theorem dJ1_isLatin1_0 : decode cJ1_isLatin1 0 = .ok (.getstatic 18, 3) := by decide +kernel
theorem dJ1_isLatin1_3 : decode cJ1_isLatin1 3 = .ok (.ifCond .eq 14, 3) := by decide +kernel
theorem dJ1_isLatin1_6 : decode cJ1_isLatin1 6 = .ok (.aload_n 0, 1) := by decide +kernel
theorem dJ1_isLatin1_7 : decode cJ1_isLatin1 7 = .ok (.getfield 22, 3) := by decide +kernel
theorem dJ1_isLatin1_10 : decode cJ1_isLatin1 10 = .ok (.ifCond .ne 7, 3) := by decide +kernel
theorem dJ1_isLatin1_13 : decode cJ1_isLatin1 13 = .ok (.iconst 1, 1) := by decide +kernel
theorem dJ1_isLatin1_14 : decode cJ1_isLatin1 14 = .ok (.goto 4, 3) := by decide +kernel
theorem dJ1_isLatin1_17 : decode cJ1_isLatin1 17 = .ok (.iconst 0, 1) := by decide +kernel
theorem dJ1_isLatin1_18 : decode cJ1_isLatin1 18 = .ok (.ireturn, 1) := by decide +kernel
theorem dK6_length_0 : decode cK6_length 0 = .ok (.aload_n 0, 1) := by decide +kernel
theorem dK6_length_1 : decode cK6_length 1 = .ok (.invokespecial 343, 3) := by decide +kernel
theorem dK6_length_4 : decode cK6_length 4 = .ok (.ireturn, 1) := by decide +kernel
theorem dJ1_length_0 : decode cJ1_length 0 = .ok (.aload_n 0, 1) := by decide +kernel
theorem dJ1_length_1 : decode cJ1_length 1 = .ok (.getfield 79, 3) := by decide +kernel
theorem dJ1_length_4 : decode cJ1_length 4 = .ok (.ireturn, 1) := by decide +kernel
theorem dK6_append_LStringLStringBuilder_0 : decode cK6_append_LStringLStringBuilder 0 = .ok (.aload_n 0, 1) := by decide +kernel
theorem dK6_append_LStringLStringBuilder_1 : decode cK6_append_LStringLStringBuilder 1 = .ok (.aload_n 1, 1) := by decide +kernel
theorem dK6_append_LStringLStringBuilder_2 : decode cK6_append_LStringLStringBuilder 2 = .ok (.invokespecial 29, 3) := by decide +kernel
theorem dK6_append_LStringLStringBuilder_5 : decode cK6_append_LStringLStringBuilder 5 = .ok (.pop, 1) := by decide +kernel
theorem dK6_append_LStringLStringBuilder_6 : decode cK6_append_LStringLStringBuilder 6 = .ok (.aload_n 0, 1) := by decide +kernel
theorem dK6_append_LStringLStringBuilder_7 : decode cK6_append_LStringLStringBuilder 7 = .ok (.areturn, 1) := by decide +kernel
theorem dJ1_append_LStringLAbstractStringBuilder_0 : decode cJ1_append_LStringLAbstractStringBuilder 0 = .ok (.aload_n 1, 1) := by decide +kernel
theorem dJ1_append_LStringLAbstractStringBuilder_1 : decode cJ1_append_LStringLAbstractStringBuilder 1 = .ok (.ifnonnull 8, 3) := by decide +kernel
theorem dJ1_append_LStringLAbstractStringBuilder_9 : decode cJ1_append_LStringLAbstractStringBuilder 9 = .ok (.aload_n 1, 1) := by decide +kernel
theorem dJ1_append_LStringLAbstractStringBuilder_10 : decode cJ1_append_LStringLAbstractStringBuilder 10 = .ok (.invokevirtual 32, 3) := by decide +kernel
theorem dJ1_append_LStringLAbstractStringBuilder_13 : decode cJ1_append_LStringLAbstractStringBuilder 13 = .ok (.istore_n 2, 1) := by decide +kernel
theorem dJ1_append_LStringLAbstractStringBuilder_14 : decode cJ1_append_LStringLAbstractStringBuilder 14 = .ok (.aload_n 0, 1) := by decide +kernel
theorem dJ1_append_LStringLAbstractStringBuilder_15 : decode cJ1_append_LStringLAbstractStringBuilder 15 = .ok (.aload_n 0, 1) := by decide +kernel
theorem dJ1_append_LStringLAbstractStringBuilder_16 : decode cJ1_append_LStringLAbstractStringBuilder 16 = .ok (.getfield 79, 3) := by decide +kernel
theorem dJ1_append_LStringLAbstractStringBuilder_19 : decode cJ1_append_LStringLAbstractStringBuilder 19 = .ok (.iload_n 2, 1) := by decide +kernel
theorem dJ1_append_LStringLAbstractStringBuilder_20 : decode cJ1_append_LStringLAbstractStringBuilder 20 = .ok (.iadd, 1) := by decide +kernel
theorem dJ1_append_LStringLAbstractStringBuilder_21 : decode cJ1_append_LStringLAbstractStringBuilder 21 = .ok (.invokevirtual 100, 3) := by decide +kernel
theorem dJ1_append_LStringLAbstractStringBuilder_24 : decode cJ1_append_LStringLAbstractStringBuilder 24 = .ok (.aload_n 0, 1) := by decide +kernel
theorem dJ1_append_LStringLAbstractStringBuilder_25 : decode cJ1_append_LStringLAbstractStringBuilder 25 = .ok (.aload_n 0, 1) := by decide +kernel
theorem dJ1_append_LStringLAbstractStringBuilder_26 : decode cJ1_append_LStringLAbstractStringBuilder 26 = .ok (.getfield 79, 3) := by decide +kernel
theorem dJ1_append_LStringLAbstractStringBuilder_29 : decode cJ1_append_LStringLAbstractStringBuilder 29 = .ok (.aload_n 1, 1) := by decide +kernel
theorem dJ1_append_LStringLAbstractStringBuilder_30 : decode cJ1_append_LStringLAbstractStringBuilder 30 = .ok (.invokevirtual 208, 3) := by decide +kernel
theorem dJ1_append_LStringLAbstractStringBuilder_33 : decode cJ1_append_LStringLAbstractStringBuilder 33 = .ok (.aload_n 0, 1) := by decide +kernel
theorem dJ1_append_LStringLAbstractStringBuilder_34 : decode cJ1_append_LStringLAbstractStringBuilder 34 = .ok (.dup, 1) := by decide +kernel
theorem dJ1_append_LStringLAbstractStringBuilder_35 : decode cJ1_append_LStringLAbstractStringBuilder 35 = .ok (.getfield 79, 3) := by decide +kernel
theorem dJ1_append_LStringLAbstractStringBuilder_38 : decode cJ1_append_LStringLAbstractStringBuilder 38 = .ok (.iload_n 2, 1) := by decide +kernel
theorem dJ1_append_LStringLAbstractStringBuilder_39 : decode cJ1_append_LStringLAbstractStringBuilder 39 = .ok (.iadd, 1) := by decide +kernel
theorem dJ1_append_LStringLAbstractStringBuilder_40 : decode cJ1_append_LStringLAbstractStringBuilder 40 = .ok (.putfield 79, 3) := by decide +kernel
theorem dJ1_append_LStringLAbstractStringBuilder_43 : decode cJ1_append_LStringLAbstractStringBuilder 43 = .ok (.aload_n 0, 1) := by decide +kernel
theorem dJ1_append_LStringLAbstractStringBuilder_44 : decode cJ1_append_LStringLAbstractStringBuilder 44 = .ok (.areturn, 1) := by decide +kernel
theorem dJ3_checkBoundsBeginEnd_6 : decode cJ3_checkBoundsBeginEnd 6 = .ok (.invokestatic 1062, 3) := by decide +kernel
theorem dJ3_length_0 : decode cJ3_length 0 = .ok (.aload_n 0, 1) := by decide +kernel
theorem dJ3_length_1 : decode cJ3_length 1 = .ok (.getfield 9, 3) := by decide +kernel
theorem dJ3_length_4 : decode cJ3_length 4 = .ok (.arraylength, 1) := by decide +kernel
theorem dJ3_length_5 : decode cJ3_length 5 = .ok (.aload_n 0, 1) := by decide +kernel
theorem dJ3_length_6 : decode cJ3_length 6 = .ok (.invokevirtual 335, 3) := by decide +kernel
theorem dJ3_length_9 : decode cJ3_length 9 = .ok (.ishr, 1) := by decide +kernel
theorem dJ3_length_10 : decode cJ3_length 10 = .ok (.ireturn, 1) := by decide +kernel
theorem dJ3_coder_0 : decode cJ3_coder 0 = .ok (.getstatic 38, 3) := by decide +kernel
theorem dJ3_coder_3 : decode cJ3_coder 3 = .ok (.ifCond .eq 10, 3) := by decide +kernel
theorem dJ3_coder_6 : decode cJ3_coder 6 = .ok (.aload_n 0, 1) := by decide +kernel
theorem dJ3_coder_7 : decode cJ3_coder 7 = .ok (.getfield 15, 3) := by decide +kernel
theorem dJ3_coder_10 : decode cJ3_coder 10 = .ok (.goto 4, 3) := by decide +kernel
theorem dJ3_coder_13 : decode cJ3_coder 13 = .ok (.iconst 1, 1) := by decide +kernel
theorem dJ3_coder_14 : decode cJ3_coder 14 = .ok (.ireturn, 1) := by decide +kernel
theorem dJ1_putStringAt_0 : decode cJ1_putStringAt 0 = .ok (.aload_n 0, 1) := by decide +kernel
theorem dJ1_putStringAt_1 : decode cJ1_putStringAt 1 = .ok (.aload_n 2, 1) := by decide +kernel
theorem dJ1_putStringAt_2 : decode cJ1_putStringAt 2 = .ok (.invokevirtual 397, 3) := by decide +kernel
theorem dJ1_putStringAt_5 : decode cJ1_putStringAt 5 = .ok (.aload_n 2, 1) := by decide +kernel
theorem dJ1_putStringAt_6 : decode cJ1_putStringAt 6 = .ok (.aload_n 0, 1) := by decide +kernel
theorem dJ1_putStringAt_7 : decode cJ1_putStringAt 7 = .ok (.getfield 15, 3) := by decide +kernel
theorem dJ1_putStringAt_10 : decode cJ1_putStringAt 10 = .ok (.iload_n 1, 1) := by decide +kernel
theorem dJ1_putStringAt_11 : decode cJ1_putStringAt 11 = .ok (.aload_n 0, 1) := by decide +kernel
theorem dJ1_putStringAt_12 : decode cJ1_putStringAt 12 = .ok (.getfield 22, 3) := by decide +kernel
theorem dJ1_putStringAt_15 : decode cJ1_putStringAt 15 = .ok (.invokevirtual 399, 3) := by decide +kernel
theorem dJ1_putStringAt_18 : decode cJ1_putStringAt 18 = .ok (.return_, 1) := by decide +kernel
theorem dJ1_inflateIfNeededFor_0 : decode cJ1_inflateIfNeededFor 0 = .ok (.getstatic 18, 3) := by decide +kernel
theorem dJ1_inflateIfNeededFor_3 : decode cJ1_inflateIfNeededFor 3 = .ok (.ifCond .eq 18, 3) := by decide +kernel
theorem dJ1_inflateIfNeededFor_6 : decode cJ1_inflateIfNeededFor 6 = .ok (.aload_n 0, 1) := by decide +kernel
theorem dJ1_inflateIfNeededFor_7 : decode cJ1_inflateIfNeededFor 7 = .ok (.getfield 22, 3) := by decide +kernel
theorem dJ1_inflateIfNeededFor_10 : decode cJ1_inflateIfNeededFor 10 = .ok (.aload_n 1, 1) := by decide +kernel
theorem dJ1_inflateIfNeededFor_11 : decode cJ1_inflateIfNeededFor 11 = .ok (.invokevirtual 40, 3) := by decide +kernel
theorem dJ1_inflateIfNeededFor_14 : decode cJ1_inflateIfNeededFor 14 = .ok (.if_icmp .eq 7, 3) := by decide +kernel
theorem dJ1_inflateIfNeededFor_17 : decode cJ1_inflateIfNeededFor 17 = .ok (.aload_n 0, 1) := by decide +kernel
theorem dJ1_inflateIfNeededFor_18 : decode cJ1_inflateIfNeededFor 18 = .ok (.invokevirtual 195, 3) := by decide +kernel
theorem dJ1_inflateIfNeededFor_21 : decode cJ1_inflateIfNeededFor 21 = .ok (.return_, 1) := by decide +kernel
theorem dJ3_checkBoundsOffCount_6 : decode cJ3_checkBoundsOffCount 6 = .ok (.invokestatic 1065, 3) := by decide +kernel
theorem dJ3_getBytes_0 : decode cJ3_getBytes 0 = .ok (.aload_n 0, 1) := by decide +kernel
theorem dJ3_getBytes_1 : decode cJ3_getBytes 1 = .ok (.invokevirtual 335, 3) := by decide +kernel
theorem dJ3_getBytes_4 : decode cJ3_getBytes 4 = .ok (.iload_n 3, 1) := by decide +kernel
theorem dJ3_getBytes_5 : decode cJ3_getBytes 5 = .ok (.if_icmp .ne 23, 3) := by decide +kernel
theorem dJ3_getBytes_8 : decode cJ3_getBytes 8 = .ok (.aload_n 0, 1) := by decide +kernel
theorem dJ3_getBytes_9 : decode cJ3_getBytes 9 = .ok (.getfield 9, 3) := by decide +kernel
theorem dJ3_getBytes_12 : decode cJ3_getBytes 12 = .ok (.iconst 0, 1) := by decide +kernel
theorem dJ3_getBytes_13 : decode cJ3_getBytes 13 = .ok (.aload_n 1, 1) := by decide +kernel
theorem dJ3_getBytes_14 : decode cJ3_getBytes 14 = .ok (.iload_n 2, 1) := by decide +kernel
theorem dJ3_getBytes_15 : decode cJ3_getBytes 15 = .ok (.iload_n 3, 1) := by decide +kernel
theorem dJ3_getBytes_16 : decode cJ3_getBytes 16 = .ok (.ishl, 1) := by decide +kernel
theorem dJ3_getBytes_17 : decode cJ3_getBytes 17 = .ok (.aload_n 0, 1) := by decide +kernel
theorem dJ3_getBytes_18 : decode cJ3_getBytes 18 = .ok (.getfield 9, 3) := by decide +kernel
theorem dJ3_getBytes_21 : decode cJ3_getBytes 21 = .ok (.arraylength, 1) := by decide +kernel
theorem dJ3_getBytes_22 : decode cJ3_getBytes 22 = .ok (.invokestatic 212, 3) := by decide +kernel
theorem dJ3_getBytes_25 : decode cJ3_getBytes 25 = .ok (.goto 18, 3) := by decide +kernel
theorem dJ3_getBytes_28 : decode cJ3_getBytes 28 = .ok (.aload_n 0, 1) := by decide +kernel
theorem dJ3_getBytes_29 : decode cJ3_getBytes 29 = .ok (.getfield 9, 3) := by decide +kernel
theorem dJ3_getBytes_32 : decode cJ3_getBytes 32 = .ok (.iconst 0, 1) := by decide +kernel
theorem dJ3_getBytes_33 : decode cJ3_getBytes 33 = .ok (.aload_n 1, 1) := by decide +kernel
theorem dJ3_getBytes_34 : decode cJ3_getBytes 34 = .ok (.iload_n 2, 1) := by decide +kernel
theorem dJ3_getBytes_35 : decode cJ3_getBytes 35 = .ok (.aload_n 0, 1) := by decide +kernel
theorem dJ3_getBytes_36 : decode cJ3_getBytes 36 = .ok (.getfield 9, 3) := by decide +kernel
theorem dJ3_getBytes_39 : decode cJ3_getBytes 39 = .ok (.arraylength, 1) := by decide +kernel
theorem dJ3_getBytes_40 : decode cJ3_getBytes 40 = .ok (.invokestatic 106, 3) := by decide +kernel
theorem dJ3_getBytes_43 : decode cJ3_getBytes 43 = .ok (.return_, 1) := by decide +kernel
theorem dK3_tell_0 : decode cK3_tell 0 = .ok (.aload_n 2, 1) := by decide +kernel
theorem dK3_tell_1 : decode cK3_tell 1 = .ok (.aload_n 0, 1) := by decide +kernel
theorem dK3_tell_2 : decode cK3_tell 2 = .ok (.getfield 9, 3) := by decide +kernel
theorem dK3_tell_5 : decode cK3_tell 5 = .ok (.iload_n 1, 1) := by decide +kernel
theorem dK3_tell_6 : decode cK3_tell 6 = .ok (.baload, 1) := by decide +kernel
theorem dK3_tell_7 : decode cK3_tell 7 = .ok (.ifCond .eq 8, 3) := by decide +kernel
theorem dK3_tell_10 : decode cK3_tell 10 = .ok (.ldc 36, 2) := by decide +kernel
theorem dK3_tell_12 : decode cK3_tell 12 = .ok (.goto 5, 3) := by decide +kernel
theorem dK3_tell_15 : decode cK3_tell 15 = .ok (.ldc 38, 2) := by decide +kernel
theorem dK3_tell_17 : decode cK3_tell 17 = .ok (.invokevirtual 40, 3) := by decide +kernel
theorem dK3_tell_20 : decode cK3_tell 20 = .ok (.pop, 1) := by decide +kernel
theorem dK3_tell_21 : decode cK3_tell 21 = .ok (.aload_n 2, 1) := by decide +kernel
theorem dK3_tell_22 : decode cK3_tell 22 = .ok (.aload_n 0, 1) := by decide +kernel
theorem dK3_tell_23 : decode cK3_tell 23 = .ok (.getfield 15, 3) := by decide +kernel
theorem dK3_tell_26 : decode cK3_tell 26 = .ok (.iload_n 1, 1) := by decide +kernel
theorem dK3_tell_27 : decode cK3_tell 27 = .ok (.iaload, 1) := by decide +kernel
theorem dK3_tell_28 : decode cK3_tell 28 = .ok (.bipush 72, 2) := by decide +kernel
theorem dK3_tell_30 : decode cK3_tell 30 = .ok (.idiv, 1) := by decide +kernel
theorem dK3_tell_31 : decode cK3_tell 31 = .ok (.invokevirtual 46, 3) := by decide +kernel
theorem dK3_tell_34 : decode cK3_tell 34 = .ok (.pop, 1) := by decide +kernel
theorem dK3_tell_35 : decode cK3_tell 35 = .ok (.aload_n 2, 1) := by decide +kernel
theorem dK3_tell_36 : decode cK3_tell 36 = .ok (.bipush 32, 2) := by decide +kernel
theorem dK3_tell_38 : decode cK3_tell 38 = .ok (.invokevirtual 49, 3) := by decide +kernel
theorem dK3_tell_41 : decode cK3_tell 41 = .ok (.pop, 1) := by decide +kernel
theorem dK3_tell_42 : decode cK3_tell 42 = .ok (.aload_n 2, 1) := by decide +kernel
theorem dK3_tell_43 : decode cK3_tell 43 = .ok (.aload_n 0, 1) := by decide +kernel
theorem dK3_tell_44 : decode cK3_tell 44 = .ok (.getfield 15, 3) := by decide +kernel
theorem dK3_tell_47 : decode cK3_tell 47 = .ok (.iload_n 1, 1) := by decide +kernel
theorem dK3_tell_48 : decode cK3_tell 48 = .ok (.iaload, 1) := by decide +kernel
theorem dK3_tell_49 : decode cK3_tell 49 = .ok (.bipush 12, 2) := by decide +kernel
theorem dK3_tell_51 : decode cK3_tell 51 = .ok (.idiv, 1) := by decide +kernel
theorem dK3_tell_52 : decode cK3_tell 52 = .ok (.bipush 6, 2) := by decide +kernel
theorem dK3_tell_54 : decode cK3_tell 54 = .ok (.irem, 1) := by decide +kernel
theorem dK3_tell_55 : decode cK3_tell 55 = .ok (.invokevirtual 46, 3) := by decide +kernel
theorem dK3_tell_58 : decode cK3_tell 58 = .ok (.pop, 1) := by decide +kernel
theorem dK3_tell_59 : decode cK3_tell 59 = .ok (.aload_n 2, 1) := by decide +kernel
theorem dK3_tell_60 : decode cK3_tell 60 = .ok (.bipush 32, 2) := by decide +kernel
theorem dK3_tell_62 : decode cK3_tell 62 = .ok (.invokevirtual 49, 3) := by decide +kernel
theorem dK3_tell_65 : decode cK3_tell 65 = .ok (.pop, 1) := by decide +kernel
theorem dK3_tell_66 : decode cK3_tell 66 = .ok (.aload_n 2, 1) := by decide +kernel
theorem dK3_tell_67 : decode cK3_tell 67 = .ok (.aload_n 0, 1) := by decide +kernel
theorem dK3_tell_68 : decode cK3_tell 68 = .ok (.getfield 15, 3) := by decide +kernel
theorem dK3_tell_71 : decode cK3_tell 71 = .ok (.iload_n 1, 1) := by decide +kernel
theorem dK3_tell_72 : decode cK3_tell 72 = .ok (.iaload, 1) := by decide +kernel
theorem dK3_tell_73 : decode cK3_tell 73 = .ok (.bipush 12, 2) := by decide +kernel
theorem dK3_tell_75 : decode cK3_tell 75 = .ok (.irem, 1) := by decide +kernel
theorem dK3_tell_76 : decode cK3_tell 76 = .ok (.invokevirtual 46, 3) := by decide +kernel
theorem dK3_tell_79 : decode cK3_tell 79 = .ok (.pop, 1) := by decide +kernel
theorem dK3_tell_80 : decode cK3_tell 80 = .ok (.return_, 1) := by decide +kernel
theorem dK6_append_ILStringBuilder_0 : decode cK6_append_ILStringBuilder 0 = .ok (.aload_n 0, 1) := by decide +kernel
theorem dK6_append_ILStringBuilder_1 : decode cK6_append_ILStringBuilder 1 = .ok (.iload_n 1, 1) := by decide +kernel
theorem dK6_append_ILStringBuilder_2 : decode cK6_append_ILStringBuilder 2 = .ok (.invokespecial 53, 3) := by decide +kernel
theorem dK6_append_ILStringBuilder_5 : decode cK6_append_ILStringBuilder 5 = .ok (.pop, 1) := by decide +kernel
theorem dK6_append_ILStringBuilder_6 : decode cK6_append_ILStringBuilder 6 = .ok (.aload_n 0, 1) := by decide +kernel
theorem dK6_append_ILStringBuilder_7 : decode cK6_append_ILStringBuilder 7 = .ok (.areturn, 1) := by decide +kernel
theorem dJ1_append_ILAbstractStringBuilder_0 : decode cJ1_append_ILAbstractStringBuilder 0 = .ok (.aload_n 0, 1) := by decide +kernel
theorem dJ1_append_ILAbstractStringBuilder_1 : decode cJ1_append_ILAbstractStringBuilder 1 = .ok (.getfield 79, 3) := by decide +kernel
theorem dJ1_append_ILAbstractStringBuilder_4 : decode cJ1_append_ILAbstractStringBuilder 4 = .ok (.istore_n 2, 1) := by decide +kernel
theorem dJ1_append_ILAbstractStringBuilder_5 : decode cJ1_append_ILAbstractStringBuilder 5 = .ok (.iload_n 2, 1) := by decide +kernel
theorem dJ1_append_ILAbstractStringBuilder_6 : decode cJ1_append_ILAbstractStringBuilder 6 = .ok (.iload_n 1, 1) := by decide +kernel
theorem dJ1_append_ILAbstractStringBuilder_7 : decode cJ1_append_ILAbstractStringBuilder 7 = .ok (.invokestatic 245, 3) := by decide +kernel
theorem dJ1_append_ILAbstractStringBuilder_10 : decode cJ1_append_ILAbstractStringBuilder 10 = .ok (.iadd, 1) := by decide +kernel
theorem dJ1_append_ILAbstractStringBuilder_11 : decode cJ1_append_ILAbstractStringBuilder 11 = .ok (.istore_n 3, 1) := by decide +kernel
theorem dJ1_append_ILAbstractStringBuilder_12 : decode cJ1_append_ILAbstractStringBuilder 12 = .ok (.aload_n 0, 1) := by decide +kernel
theorem dJ1_append_ILAbstractStringBuilder_13 : decode cJ1_append_ILAbstractStringBuilder 13 = .ok (.iload_n 3, 1) := by decide +kernel
theorem dJ1_append_ILAbstractStringBuilder_14 : decode cJ1_append_ILAbstractStringBuilder 14 = .ok (.invokevirtual 100, 3) := by decide +kernel
theorem dJ1_append_ILAbstractStringBuilder_17 : decode cJ1_append_ILAbstractStringBuilder 17 = .ok (.aload_n 0, 1) := by decide +kernel
theorem dJ1_append_ILAbstractStringBuilder_18 : decode cJ1_append_ILAbstractStringBuilder 18 = .ok (.invokevirtual 83, 3) := by decide +kernel
theorem dJ1_append_ILAbstractStringBuilder_21 : decode cJ1_append_ILAbstractStringBuilder 21 = .ok (.ifCond .eq 16, 3) := by decide +kernel
theorem dJ1_append_ILAbstractStringBuilder_24 : decode cJ1_append_ILAbstractStringBuilder 24 = .ok (.iload_n 1, 1) := by decide +kernel
theorem dJ1_append_ILAbstractStringBuilder_25 : decode cJ1_append_ILAbstractStringBuilder 25 = .ok (.iload_n 3, 1) := by decide +kernel
theorem dJ1_append_ILAbstractStringBuilder_26 : decode cJ1_append_ILAbstractStringBuilder 26 = .ok (.aload_n 0, 1) := by decide +kernel
theorem dJ1_append_ILAbstractStringBuilder_27 : decode cJ1_append_ILAbstractStringBuilder 27 = .ok (.getfield 15, 3) := by decide +kernel
theorem dJ1_append_ILAbstractStringBuilder_30 : decode cJ1_append_ILAbstractStringBuilder 30 = .ok (.invokestatic 248, 3) := by decide +kernel
theorem dJ1_append_ILAbstractStringBuilder_33 : decode cJ1_append_ILAbstractStringBuilder 33 = .ok (.pop, 1) := by decide +kernel
theorem dJ1_append_ILAbstractStringBuilder_34 : decode cJ1_append_ILAbstractStringBuilder 34 = .ok (.goto 14, 3) := by decide +kernel
theorem dJ1_append_ILAbstractStringBuilder_37 : decode cJ1_append_ILAbstractStringBuilder 37 = .ok (.iload_n 1, 1) := by decide +kernel
theorem dJ1_append_ILAbstractStringBuilder_38 : decode cJ1_append_ILAbstractStringBuilder 38 = .ok (.iload_n 2, 1) := by decide +kernel
theorem dJ1_append_ILAbstractStringBuilder_39 : decode cJ1_append_ILAbstractStringBuilder 39 = .ok (.iload_n 3, 1) := by decide +kernel
theorem dJ1_append_ILAbstractStringBuilder_40 : decode cJ1_append_ILAbstractStringBuilder 40 = .ok (.aload_n 0, 1) := by decide +kernel
theorem dJ1_append_ILAbstractStringBuilder_41 : decode cJ1_append_ILAbstractStringBuilder 41 = .ok (.getfield 15, 3) := by decide +kernel
theorem dJ1_append_ILAbstractStringBuilder_44 : decode cJ1_append_ILAbstractStringBuilder 44 = .ok (.invokestatic 251, 3) := by decide +kernel
theorem dJ1_append_ILAbstractStringBuilder_48 : decode cJ1_append_ILAbstractStringBuilder 48 = .ok (.aload_n 0, 1) := by decide +kernel
theorem dJ1_append_ILAbstractStringBuilder_49 : decode cJ1_append_ILAbstractStringBuilder 49 = .ok (.iload_n 3, 1) := by decide +kernel
theorem dJ1_append_ILAbstractStringBuilder_50 : decode cJ1_append_ILAbstractStringBuilder 50 = .ok (.putfield 79, 3) := by decide +kernel
theorem dJ1_append_ILAbstractStringBuilder_53 : decode cJ1_append_ILAbstractStringBuilder 53 = .ok (.aload_n 0, 1) := by decide +kernel
theorem dJ1_append_ILAbstractStringBuilder_54 : decode cJ1_append_ILAbstractStringBuilder 54 = .ok (.areturn, 1) := by decide +kernel
theorem dJ2_getChars_0 : decode cJ2_getChars 0 = .ok (.iload_n 1, 1) := by decide +kernel
theorem dJ2_getChars_1 : decode cJ2_getChars 1 = .ok (.istore 5, 2) := by decide +kernel
theorem dJ2_getChars_3 : decode cJ2_getChars 3 = .ok (.iload_n 0, 1) := by decide +kernel
theorem dJ2_getChars_4 : decode cJ2_getChars 4 = .ok (.ifCond .ge 7, 3) := by decide +kernel
theorem dJ2_getChars_7 : decode cJ2_getChars 7 = .ok (.iconst 1, 1) := by decide +kernel
theorem dJ2_getChars_8 : decode cJ2_getChars 8 = .ok (.goto 4, 3) := by decide +kernel
theorem dJ2_getChars_11 : decode cJ2_getChars 11 = .ok (.iconst 0, 1) := by decide +kernel
theorem dJ2_getChars_12 : decode cJ2_getChars 12 = .ok (.istore 6, 2) := by decide +kernel
theorem dJ2_getChars_14 : decode cJ2_getChars 14 = .ok (.iload 6, 2) := by decide +kernel
theorem dJ2_getChars_16 : decode cJ2_getChars 16 = .ok (.ifCond .ne 6, 3) := by decide +kernel
theorem dJ2_getChars_19 : decode cJ2_getChars 19 = .ok (.iload_n 0, 1) := by decide +kernel
theorem dJ2_getChars_20 : decode cJ2_getChars 20 = .ok (.ineg, 1) := by decide +kernel
theorem dJ2_getChars_21 : decode cJ2_getChars 21 = .ok (.istore_n 0, 1) := by decide +kernel
theorem dJ2_getChars_22 : decode cJ2_getChars 22 = .ok (.iload_n 0, 1) := by decide +kernel
theorem dJ2_getChars_23 : decode cJ2_getChars 23 = .ok (.bipush (-100), 2) := by decide +kernel
theorem dJ2_getChars_25 : decode cJ2_getChars 25 = .ok (.if_icmp .gt 47, 3) := by decide +kernel
theorem dJ2_getChars_28 : decode cJ2_getChars 28 = .ok (.iload_n 0, 1) := by decide +kernel
theorem dJ2_getChars_29 : decode cJ2_getChars 29 = .ok (.bipush 100, 2) := by decide +kernel
theorem dJ2_getChars_31 : decode cJ2_getChars 31 = .ok (.idiv, 1) := by decide +kernel
theorem dJ2_getChars_32 : decode cJ2_getChars 32 = .ok (.istore_n 3, 1) := by decide +kernel
theorem dJ2_getChars_33 : decode cJ2_getChars 33 = .ok (.iload_n 3, 1) := by decide +kernel
theorem dJ2_getChars_34 : decode cJ2_getChars 34 = .ok (.bipush 100, 2) := by decide +kernel
theorem dJ2_getChars_36 : decode cJ2_getChars 36 = .ok (.imul, 1) := by decide +kernel
theorem dJ2_getChars_37 : decode cJ2_getChars 37 = .ok (.iload_n 0, 1) := by decide +kernel
theorem dJ2_getChars_38 : decode cJ2_getChars 38 = .ok (.isub, 1) := by decide +kernel
theorem dJ2_getChars_39 : decode cJ2_getChars 39 = .ok (.istore 4, 2) := by decide +kernel
theorem dJ2_getChars_41 : decode cJ2_getChars 41 = .ok (.iload_n 3, 1) := by decide +kernel
theorem dJ2_getChars_42 : decode cJ2_getChars 42 = .ok (.istore_n 0, 1) := by decide +kernel
theorem dJ2_getChars_43 : decode cJ2_getChars 43 = .ok (.aload_n 2, 1) := by decide +kernel
theorem dJ2_getChars_44 : decode cJ2_getChars 44 = .ok (.iinc 5 (-1), 3) := by decide +kernel
theorem dJ2_getChars_47 : decode cJ2_getChars 47 = .ok (.iload 5, 2) := by decide +kernel
theorem dJ2_getChars_49 : decode cJ2_getChars 49 = .ok (.getstatic 83, 3) := by decide +kernel
theorem dJ2_getChars_52 : decode cJ2_getChars 52 = .ok (.iload 4, 2) := by decide +kernel
theorem dJ2_getChars_54 : decode cJ2_getChars 54 = .ok (.baload, 1) := by decide +kernel
theorem dJ2_getChars_55 : decode cJ2_getChars 55 = .ok (.bastore, 1) := by decide +kernel
theorem dJ2_getChars_56 : decode cJ2_getChars 56 = .ok (.aload_n 2, 1) := by decide +kernel
theorem dJ2_getChars_57 : decode cJ2_getChars 57 = .ok (.iinc 5 (-1), 3) := by decide +kernel
theorem dJ2_getChars_60 : decode cJ2_getChars 60 = .ok (.iload 5, 2) := by decide +kernel
theorem dJ2_getChars_62 : decode cJ2_getChars 62 = .ok (.getstatic 87, 3) := by decide +kernel
theorem dJ2_getChars_65 : decode cJ2_getChars 65 = .ok (.iload 4, 2) := by decide +kernel
theorem dJ2_getChars_67 : decode cJ2_getChars 67 = .ok (.baload, 1) := by decide +kernel
theorem dJ2_getChars_68 : decode cJ2_getChars 68 = .ok (.bastore, 1) := by decide +kernel
theorem dJ2_getChars_69 : decode cJ2_getChars 69 = .ok (.goto (-47), 3) := by decide +kernel
theorem dJ2_getChars_72 : decode cJ2_getChars 72 = .ok (.aload_n 2, 1) := by decide +kernel
theorem dJ2_getChars_73 : decode cJ2_getChars 73 = .ok (.iinc 5 (-1), 3) := by decide +kernel
theorem dJ2_getChars_76 : decode cJ2_getChars 76 = .ok (.iload 5, 2) := by decide +kernel
theorem dJ2_getChars_78 : decode cJ2_getChars 78 = .ok (.getstatic 83, 3) := by decide +kernel
theorem dJ2_getChars_81 : decode cJ2_getChars 81 = .ok (.iload_n 0, 1) := by decide +kernel
theorem dJ2_getChars_82 : decode cJ2_getChars 82 = .ok (.ineg, 1) := by decide +kernel
theorem dJ2_getChars_83 : decode cJ2_getChars 83 = .ok (.baload, 1) := by decide +kernel
theorem dJ2_getChars_84 : decode cJ2_getChars 84 = .ok (.bastore, 1) := by decide +kernel
theorem dJ2_getChars_85 : decode cJ2_getChars 85 = .ok (.iload_n 0, 1) := by decide +kernel
theorem dJ2_getChars_86 : decode cJ2_getChars 86 = .ok (.bipush (-9), 2) := by decide +kernel
theorem dJ2_getChars_88 : decode cJ2_getChars 88 = .ok (.if_icmp .ge 16, 3) := by decide +kernel
theorem dJ2_getChars_91 : decode cJ2_getChars 91 = .ok (.aload_n 2, 1) := by decide +kernel
theorem dJ2_getChars_92 : decode cJ2_getChars 92 = .ok (.iinc 5 (-1), 3) := by decide +kernel
theorem dJ2_getChars_95 : decode cJ2_getChars 95 = .ok (.iload 5, 2) := by decide +kernel
theorem dJ2_getChars_97 : decode cJ2_getChars 97 = .ok (.getstatic 87, 3) := by decide +kernel
theorem dJ2_getChars_100 : decode cJ2_getChars 100 = .ok (.iload_n 0, 1) := by decide +kernel
theorem dJ2_getChars_101 : decode cJ2_getChars 101 = .ok (.ineg, 1) := by decide +kernel
theorem dJ2_getChars_102 : decode cJ2_getChars 102 = .ok (.baload, 1) := by decide +kernel
theorem dJ2_getChars_103 : decode cJ2_getChars 103 = .ok (.bastore, 1) := by decide +kernel
theorem dJ2_getChars_104 : decode cJ2_getChars 104 = .ok (.iload 6, 2) := by decide +kernel
theorem dJ2_getChars_106 : decode cJ2_getChars 106 = .ok (.ifCond .eq 12, 3) := by decide +kernel
theorem dJ2_getChars_109 : decode cJ2_getChars 109 = .ok (.aload_n 2, 1) := by decide +kernel
theorem dJ2_getChars_110 : decode cJ2_getChars 110 = .ok (.iinc 5 (-1), 3) := by decide +kernel
theorem dJ2_getChars_113 : decode cJ2_getChars 113 = .ok (.iload 5, 2) := by decide +kernel
theorem dJ2_getChars_115 : decode cJ2_getChars 115 = .ok (.bipush 45, 2) := by decide +kernel
theorem dJ2_getChars_117 : decode cJ2_getChars 117 = .ok (.bastore, 1) := by decide +kernel
theorem dJ2_getChars_118 : decode cJ2_getChars 118 = .ok (.iload 5, 2) := by decide +kernel
theorem dJ2_getChars_120 : decode cJ2_getChars 120 = .ok (.ireturn, 1) := by decide +kernel
theorem dK6_append_CLStringBuilder_0 : decode cK6_append_CLStringBuilder 0 = .ok (.aload_n 0, 1) := by decide +kernel
theorem dK6_append_CLStringBuilder_1 : decode cK6_append_CLStringBuilder 1 = .ok (.iload_n 1, 1) := by decide +kernel
theorem dK6_append_CLStringBuilder_2 : decode cK6_append_CLStringBuilder 2 = .ok (.invokespecial 50, 3) := by decide +kernel
theorem dK6_append_CLStringBuilder_5 : decode cK6_append_CLStringBuilder 5 = .ok (.pop, 1) := by decide +kernel
theorem dK6_append_CLStringBuilder_6 : decode cK6_append_CLStringBuilder 6 = .ok (.aload_n 0, 1) := by decide +kernel
theorem dK6_append_CLStringBuilder_7 : decode cK6_append_CLStringBuilder 7 = .ok (.areturn, 1) := by decide +kernel
theorem dJ1_append_CLAbstractStringBuilder_0 : decode cJ1_append_CLAbstractStringBuilder 0 = .ok (.aload_n 0, 1) := by decide +kernel
theorem dJ1_append_CLAbstractStringBuilder_1 : decode cJ1_append_CLAbstractStringBuilder 1 = .ok (.aload_n 0, 1) := by decide +kernel
theorem dJ1_append_CLAbstractStringBuilder_2 : decode cJ1_append_CLAbstractStringBuilder 2 = .ok (.getfield 79, 3) := by decide +kernel
theorem dJ1_append_CLAbstractStringBuilder_5 : decode cJ1_append_CLAbstractStringBuilder 5 = .ok (.iconst 1, 1) := by decide +kernel
theorem dJ1_append_CLAbstractStringBuilder_6 : decode cJ1_append_CLAbstractStringBuilder 6 = .ok (.iadd, 1) := by decide +kernel
theorem dJ1_append_CLAbstractStringBuilder_7 : decode cJ1_append_CLAbstractStringBuilder 7 = .ok (.invokevirtual 100, 3) := by decide +kernel
theorem dJ1_append_CLAbstractStringBuilder_10 : decode cJ1_append_CLAbstractStringBuilder 10 = .ok (.aload_n 0, 1) := by decide +kernel
theorem dJ1_append_CLAbstractStringBuilder_11 : decode cJ1_append_CLAbstractStringBuilder 11 = .ok (.invokevirtual 83, 3) := by decide +kernel
theorem dJ1_append_CLAbstractStringBuilder_14 : decode cJ1_append_CLAbstractStringBuilder 14 = .ok (.ifCond .eq 31, 3) := by decide +kernel
theorem dJ1_append_CLAbstractStringBuilder_17 : decode cJ1_append_CLAbstractStringBuilder 17 = .ok (.iload_n 1, 1) := by decide +kernel
theorem dJ1_append_CLAbstractStringBuilder_18 : decode cJ1_append_CLAbstractStringBuilder 18 = .ok (.invokestatic 191, 3) := by decide +kernel
theorem dJ1_append_CLAbstractStringBuilder_21 : decode cJ1_append_CLAbstractStringBuilder 21 = .ok (.ifCond .eq 24, 3) := by decide +kernel
theorem dJ1_append_CLAbstractStringBuilder_24 : decode cJ1_append_CLAbstractStringBuilder 24 = .ok (.aload_n 0, 1) := by decide +kernel
theorem dJ1_append_CLAbstractStringBuilder_25 : decode cJ1_append_CLAbstractStringBuilder 25 = .ok (.getfield 15, 3) := by decide +kernel
theorem dJ1_append_CLAbstractStringBuilder_28 : decode cJ1_append_CLAbstractStringBuilder 28 = .ok (.aload_n 0, 1) := by decide +kernel
theorem dJ1_append_CLAbstractStringBuilder_29 : decode cJ1_append_CLAbstractStringBuilder 29 = .ok (.dup, 1) := by decide +kernel
theorem dJ1_append_CLAbstractStringBuilder_30 : decode cJ1_append_CLAbstractStringBuilder 30 = .ok (.getfield 79, 3) := by decide +kernel
theorem dJ1_append_CLAbstractStringBuilder_33 : decode cJ1_append_CLAbstractStringBuilder 33 = .ok (.dup_x1, 1) := by decide +kernel
theorem dJ1_append_CLAbstractStringBuilder_34 : decode cJ1_append_CLAbstractStringBuilder 34 = .ok (.iconst 1, 1) := by decide +kernel
theorem dJ1_append_CLAbstractStringBuilder_35 : decode cJ1_append_CLAbstractStringBuilder 35 = .ok (.iadd, 1) := by decide +kernel
theorem dJ1_append_CLAbstractStringBuilder_36 : decode cJ1_append_CLAbstractStringBuilder 36 = .ok (.putfield 79, 3) := by decide +kernel
theorem dJ1_append_CLAbstractStringBuilder_39 : decode cJ1_append_CLAbstractStringBuilder 39 = .ok (.iload_n 1, 1) := by decide +kernel
theorem dJ1_append_CLAbstractStringBuilder_40 : decode cJ1_append_CLAbstractStringBuilder 40 = .ok (.i2b, 1) := by decide +kernel
theorem dJ1_append_CLAbstractStringBuilder_41 : decode cJ1_append_CLAbstractStringBuilder 41 = .ok (.bastore, 1) := by decide +kernel
theorem dJ1_append_CLAbstractStringBuilder_42 : decode cJ1_append_CLAbstractStringBuilder 42 = .ok (.goto 33, 3) := by decide +kernel
theorem dJ1_append_CLAbstractStringBuilder_45 : decode cJ1_append_CLAbstractStringBuilder 45 = .ok (.aload_n 0, 1) := by decide +kernel
theorem dJ1_append_CLAbstractStringBuilder_46 : decode cJ1_append_CLAbstractStringBuilder 46 = .ok (.invokevirtual 83, 3) := by decide +kernel
theorem dJ1_append_CLAbstractStringBuilder_49 : decode cJ1_append_CLAbstractStringBuilder 49 = .ok (.ifCond .eq 7, 3) := by decide +kernel
theorem dJ1_append_CLAbstractStringBuilder_52 : decode cJ1_append_CLAbstractStringBuilder 52 = .ok (.aload_n 0, 1) := by decide +kernel
theorem dJ1_append_CLAbstractStringBuilder_53 : decode cJ1_append_CLAbstractStringBuilder 53 = .ok (.invokevirtual 195, 3) := by decide +kernel
theorem dJ1_append_CLAbstractStringBuilder_56 : decode cJ1_append_CLAbstractStringBuilder 56 = .ok (.aload_n 0, 1) := by decide +kernel
theorem dJ1_append_CLAbstractStringBuilder_57 : decode cJ1_append_CLAbstractStringBuilder 57 = .ok (.getfield 15, 3) := by decide +kernel
theorem dJ1_append_CLAbstractStringBuilder_60 : decode cJ1_append_CLAbstractStringBuilder 60 = .ok (.aload_n 0, 1) := by decide +kernel
theorem dJ1_append_CLAbstractStringBuilder_61 : decode cJ1_append_CLAbstractStringBuilder 61 = .ok (.dup, 1) := by decide +kernel
theorem dJ1_append_CLAbstractStringBuilder_62 : decode cJ1_append_CLAbstractStringBuilder 62 = .ok (.getfield 79, 3) := by decide +kernel
theorem dJ1_append_CLAbstractStringBuilder_65 : decode cJ1_append_CLAbstractStringBuilder 65 = .ok (.dup_x1, 1) := by decide +kernel
theorem dJ1_append_CLAbstractStringBuilder_66 : decode cJ1_append_CLAbstractStringBuilder 66 = .ok (.iconst 1, 1) := by decide +kernel
theorem dJ1_append_CLAbstractStringBuilder_67 : decode cJ1_append_CLAbstractStringBuilder 67 = .ok (.iadd, 1) := by decide +kernel
theorem dJ1_append_CLAbstractStringBuilder_68 : decode cJ1_append_CLAbstractStringBuilder 68 = .ok (.putfield 79, 3) := by decide +kernel
theorem dJ1_append_CLAbstractStringBuilder_71 : decode cJ1_append_CLAbstractStringBuilder 71 = .ok (.iload_n 1, 1) := by decide +kernel
theorem dJ1_append_CLAbstractStringBuilder_72 : decode cJ1_append_CLAbstractStringBuilder 72 = .ok (.invokestatic 197, 3) := by decide +kernel
theorem dJ1_append_CLAbstractStringBuilder_75 : decode cJ1_append_CLAbstractStringBuilder 75 = .ok (.aload_n 0, 1) := by decide +kernel
theorem dJ1_append_CLAbstractStringBuilder_76 : decode cJ1_append_CLAbstractStringBuilder 76 = .ok (.areturn, 1) := by decide +kernel
theorem dJ3_checkIndex_5 : decode cJ3_checkIndex 5 = .ok (.invokestatic 1059, 3) := by decide +kernel
theorem dJ3_checkIndex_8 : decode cJ3_checkIndex 8 = .ok (.pop, 1) := by decide +kernel
theorem dJ3_checkIndex_9 : decode cJ3_checkIndex 9 = .ok (.return_, 1) := by decide +kernel
theorem dJ8_checkIndex_r_0 : decode cJ8_checkIndex 0 = .ok (.iload_n 0, 1) := by decide +kernel
theorem dJ8_checkIndex_n_0 : decode cJ8_checkIndex 0 = .ok (.iload_n 0, 1) := by decide +kernel
theorem dJ8_checkIndex_r_1 : decode cJ8_checkIndex 1 = .ok (.ifCond .lt 8, 3) := by decide +kernel
theorem dJ8_checkIndex_n_1 : decode cJ8_checkIndex 1 = .ok (.ifCond .lt 8, 3) := by decide +kernel
theorem dJ8_checkIndex_r_4 : decode cJ8_checkIndex 4 = .ok (.iload_n 0, 1) := by decide +kernel
theorem dJ8_checkIndex_n_4 : decode cJ8_checkIndex 4 = .ok (.iload_n 0, 1) := by decide +kernel
theorem dJ8_checkIndex_r_5 : decode cJ8_checkIndex 5 = .ok (.iload_n 1, 1) := by decide +kernel
theorem dJ8_checkIndex_n_5 : decode cJ8_checkIndex 5 = .ok (.iload_n 1, 1) := by decide +kernel
theorem dJ8_checkIndex_r_6 : decode cJ8_checkIndex 6 = .ok (.if_icmp .lt 10, 3) := by decide +kernel
theorem dJ8_checkIndex_n_6 : decode cJ8_checkIndex 6 = .ok (.if_icmp .lt 10, 3) := by decide +kernel
theorem dJ8_checkIndex_r_9 : decode cJ8_checkIndex 9 = .ok (.aload_n 2, 1) := by decide +kernel
theorem dJ8_checkIndex_n_9 : decode cJ8_checkIndex 9 = .ok (.aload_n 2, 1) := by decide +kernel
theorem dJ8_checkIndex_r_10 : decode cJ8_checkIndex 10 = .ok (.iload_n 0, 1) := by decide +kernel
theorem dJ8_checkIndex_n_10 : decode cJ8_checkIndex 10 = .ok (.iload_n 0, 1) := by decide +kernel
theorem dJ8_checkIndex_r_11 : decode cJ8_checkIndex 11 = .ok (.iload_n 1, 1) := by decide +kernel
theorem dJ8_checkIndex_n_11 : decode cJ8_checkIndex 11 = .ok (.iload_n 1, 1) := by decide +kernel
theorem dJ8_checkIndex_r_12 : decode cJ8_checkIndex 12 = .ok (.invokestatic 95, 3) := by decide +kernel
theorem dJ8_checkIndex_n_12 : decode cJ8_checkIndex 12 = .ok (.invokestatic 95, 3) := by decide +kernel
theorem dJ8_checkIndex_r_16 : decode cJ8_checkIndex 16 = .ok (.iload_n 0, 1) := by decide +kernel
theorem dJ8_checkIndex_n_16 : decode cJ8_checkIndex 16 = .ok (.iload_n 0, 1) := by decide +kernel
theorem dJ8_checkIndex_r_17 : decode cJ8_checkIndex 17 = .ok (.ireturn, 1) := by decide +kernel
theorem dJ8_checkIndex_n_17 : decode cJ8_checkIndex 17 = .ok (.ireturn, 1) := by decide +kernel
theorem dK0_letter_0 : decode cK0_letter 0 = .ok (.iload_n 1, 1) := by decide +kernel
theorem dK0_letter_1 : decode cK0_letter 1 = .ok (.ifCond .lt 14, 3) := by decide +kernel
theorem dK0_letter_4 : decode cK0_letter 4 = .ok (.iload_n 1, 1) := by decide +kernel
theorem dK0_letter_5 : decode cK0_letter 5 = .ok (.aload_n 0, 1) := by decide +kernel
theorem dK0_letter_6 : decode cK0_letter 6 = .ok (.getfield 43, 3) := by decide +kernel
theorem dK0_letter_9 : decode cK0_letter 9 = .ok (.invokevirtual 183, 3) := by decide +kernel
theorem dK0_letter_12 : decode cK0_letter 12 = .ok (.if_icmp .lt 6, 3) := by decide +kernel
theorem dK0_letter_15 : decode cK0_letter 15 = .ok (.bipush (-2), 2) := by decide +kernel
theorem dK0_letter_17 : decode cK0_letter 17 = .ok (.ireturn, 1) := by decide +kernel
theorem dK0_letter_18 : decode cK0_letter 18 = .ok (.aload_n 0, 1) := by decide +kernel
theorem dK0_letter_19 : decode cK0_letter 19 = .ok (.getfield 43, 3) := by decide +kernel
theorem dK0_letter_22 : decode cK0_letter 22 = .ok (.iload_n 1, 1) := by decide +kernel
theorem dK0_letter_23 : decode cK0_letter 23 = .ok (.invokevirtual 199, 3) := by decide +kernel
theorem dK0_letter_26 : decode cK0_letter 26 = .ok (.ireturn, 1) := by decide +kernel
theorem dK6_charAt_0 : decode cK6_charAt 0 = .ok (.aload_n 0, 1) := by decide +kernel
theorem dK6_charAt_1 : decode cK6_charAt 1 = .ok (.iload_n 1, 1) := by decide +kernel
theorem dK6_charAt_2 : decode cK6_charAt 2 = .ok (.invokespecial 329, 3) := by decide +kernel
theorem dK6_charAt_5 : decode cK6_charAt 5 = .ok (.ireturn, 1) := by decide +kernel
theorem dJ1_charAt_0 : decode cJ1_charAt 0 = .ok (.aload_n 0, 1) := by decide +kernel
theorem dJ1_charAt_1 : decode cJ1_charAt 1 = .ok (.getfield 22, 3) := by decide +kernel
theorem dJ1_charAt_4 : decode cJ1_charAt 4 = .ok (.istore_n 2, 1) := by decide +kernel
theorem dJ1_charAt_5 : decode cJ1_charAt 5 = .ok (.aload_n 0, 1) := by decide +kernel
theorem dJ1_charAt_6 : decode cJ1_charAt 6 = .ok (.getfield 15, 3) := by decide +kernel
theorem dJ1_charAt_9 : decode cJ1_charAt 9 = .ok (.astore_n 3, 1) := by decide +kernel
theorem dJ1_charAt_10 : decode cJ1_charAt 10 = .ok (.aload_n 0, 1) := by decide +kernel
theorem dJ1_charAt_11 : decode cJ1_charAt 11 = .ok (.getfield 79, 3) := by decide +kernel
theorem dJ1_charAt_14 : decode cJ1_charAt 14 = .ok (.aload_n 3, 1) := by decide +kernel
theorem dJ1_charAt_15 : decode cJ1_charAt 15 = .ok (.arraylength, 1) := by decide +kernel
theorem dJ1_charAt_16 : decode cJ1_charAt 16 = .ok (.iload_n 2, 1) := by decide +kernel
theorem dJ1_charAt_17 : decode cJ1_charAt 17 = .ok (.ishr, 1) := by decide +kernel
theorem dJ1_charAt_18 : decode cJ1_charAt 18 = .ok (.invokestatic 138, 3) := by decide +kernel
theorem dJ1_charAt_21 : decode cJ1_charAt 21 = .ok (.istore 4, 2) := by decide +kernel
theorem dJ1_charAt_23 : decode cJ1_charAt 23 = .ok (.iload_n 1, 1) := by decide +kernel
theorem dJ1_charAt_24 : decode cJ1_charAt 24 = .ok (.iload 4, 2) := by decide +kernel
theorem dJ1_charAt_26 : decode cJ1_charAt 26 = .ok (.invokestatic 144, 3) := by decide +kernel
theorem dJ1_charAt_29 : decode cJ1_charAt 29 = .ok (.iload_n 2, 1) := by decide +kernel
theorem dJ1_charAt_30 : decode cJ1_charAt 30 = .ok (.ifCond .ne 12, 3) := by decide +kernel
theorem dJ1_charAt_33 : decode cJ1_charAt 33 = .ok (.aload_n 3, 1) := by decide +kernel
theorem dJ1_charAt_34 : decode cJ1_charAt 34 = .ok (.iload_n 1, 1) := by decide +kernel
theorem dJ1_charAt_35 : decode cJ1_charAt 35 = .ok (.baload, 1) := by decide +kernel
theorem dJ1_charAt_36 : decode cJ1_charAt 36 = .ok (.sipush 255, 3) := by decide +kernel
theorem dJ1_charAt_39 : decode cJ1_charAt 39 = .ok (.iand, 1) := by decide +kernel
theorem dJ1_charAt_40 : decode cJ1_charAt 40 = .ok (.i2c, 1) := by decide +kernel
theorem dJ1_charAt_41 : decode cJ1_charAt 41 = .ok (.ireturn, 1) := by decide +kernel
theorem dJ1_charAt_42 : decode cJ1_charAt 42 = .ok (.aload_n 3, 1) := by decide +kernel
theorem dJ1_charAt_43 : decode cJ1_charAt 43 = .ok (.iload_n 1, 1) := by decide +kernel
theorem dJ1_charAt_44 : decode cJ1_charAt 44 = .ok (.invokestatic 148, 3) := by decide +kernel
