theorem dK1_init_0 : decode cK1_init 0 = .ok (.aload_n 0, 1) := by decide +kernel
theorem dK1_init_1 : decode cK1_init 1 = .ok (.invokespecial 3, 3) := by decide +kernel
theorem dK1_init_4 : decode cK1_init 4 = .ok (.aload_n 0, 1) := by decide +kernel
theorem dK1_init_5 : decode cK1_init 5 = .ok (.bipush 72, 2) := by decide +kernel
theorem dK1_init_7 : decode cK1_init 7 = .ok (.newarray .int, 2) := by decide +kernel
theorem dK1_init_9 : decode cK1_init 9 = .ok (.putfield 9, 3) := by decide +kernel
theorem dK1_init_12 : decode cK1_init 12 = .ok (.aload_n 0, 1) := by decide +kernel
theorem dK1_init_13 : decode cK1_init 13 = .ok (.bipush 12, 2) := by decide +kernel
theorem dK1_init_15 : decode cK1_init 15 = .ok (.newarray .int, 2) := by decide +kernel
theorem dK1_init_17 : decode cK1_init 17 = .ok (.putfield 15, 3) := by decide +kernel
theorem dK1_init_20 : decode cK1_init 20 = .ok (.aload_n 0, 1) := by decide +kernel
theorem dK1_init_21 : decode cK1_init 21 = .ok (.bipush 12, 2) := by decide +kernel
theorem dK1_init_23 : decode cK1_init 23 = .ok (.newarray .int, 2) := by decide +kernel
theorem dK1_init_25 : decode cK1_init 25 = .ok (.putfield 18, 3) := by decide +kernel
theorem dK1_init_28 : decode cK1_init 28 = .ok (.aload_n 0, 1) := by decide +kernel
theorem dK1_init_29 : decode cK1_init 29 = .ok (.iconst 1, 1) := by decide +kernel
theorem dK1_init_30 : decode cK1_init 30 = .ok (.putfield 21, 3) := by decide +kernel
theorem dK1_init_33 : decode cK1_init 33 = .ok (.return_, 1) := by decide +kernel
theorem dK2_init_0 : decode cK2_init 0 = .ok (.aload_n 0, 1) := by decide +kernel
theorem dK2_init_1 : decode cK2_init 1 = .ok (.invokespecial 3, 3) := by decide +kernel
theorem dK2_init_4 : decode cK2_init 4 = .ok (.aload_n 0, 1) := by decide +kernel
theorem dK2_init_5 : decode cK2_init 5 = .ok (.bipush 10, 2) := by decide +kernel
theorem dK2_init_7 : decode cK2_init 7 = .ok (.newarray .int, 2) := by decide +kernel
theorem dK2_init_9 : decode cK2_init 9 = .ok (.putfield 9, 3) := by decide +kernel
theorem dK2_init_12 : decode cK2_init 12 = .ok (.aload_n 0, 1) := by decide +kernel
theorem dK2_init_13 : decode cK2_init 13 = .ok (.bipush 10, 2) := by decide +kernel
theorem dK2_init_15 : decode cK2_init 15 = .ok (.newarray .int, 2) := by decide +kernel
theorem dK2_init_17 : decode cK2_init 17 = .ok (.putfield 15, 3) := by decide +kernel
theorem dK2_init_20 : decode cK2_init 20 = .ok (.aload_n 0, 1) := by decide +kernel
theorem dK2_init_21 : decode cK2_init 21 = .ok (.bipush 10, 2) := by decide +kernel
theorem dK2_init_23 : decode cK2_init 23 = .ok (.newarray .int, 2) := by decide +kernel
theorem dK2_init_25 : decode cK2_init 25 = .ok (.putfield 18, 3) := by decide +kernel
theorem dK2_init_28 : decode cK2_init 28 = .ok (.aload_n 0, 1) := by decide +kernel
theorem dK2_init_29 : decode cK2_init 29 = .ok (.bipush 10, 2) := by decide +kernel
theorem dK2_init_31 : decode cK2_init 31 = .ok (.newarray .int, 2) := by decide +kernel
theorem dK2_init_33 : decode cK2_init 33 = .ok (.putfield 21, 3) := by decide +kernel
theorem dK2_init_36 : decode cK2_init 36 = .ok (.aload_n 0, 1) := by decide +kernel
theorem dK2_init_37 : decode cK2_init 37 = .ok (.iconst 0, 1) := by decide +kernel
theorem dK2_init_38 : decode cK2_init 38 = .ok (.putfield 24, 3) := by decide +kernel
theorem dK2_init_41 : decode cK2_init 41 = .ok (.return_, 1) := by decide +kernel
theorem dK3_init_0 : decode cK3_init 0 = .ok (.aload_n 0, 1) := by decide +kernel
theorem dK3_init_1 : decode cK3_init 1 = .ok (.invokespecial 3, 3) := by decide +kernel
theorem dK3_init_4 : decode cK3_init 4 = .ok (.aload_n 0, 1) := by decide +kernel
theorem dK3_init_5 : decode cK3_init 5 = .ok (.bipush 12, 2) := by decide +kernel
theorem dK3_init_7 : decode cK3_init 7 = .ok (.newarray .boolean, 2) := by decide +kernel
theorem dK3_init_9 : decode cK3_init 9 = .ok (.putfield 9, 3) := by decide +kernel
theorem dK3_init_12 : decode cK3_init 12 = .ok (.aload_n 0, 1) := by decide +kernel
theorem dK3_init_13 : decode cK3_init 13 = .ok (.bipush 12, 2) := by decide +kernel
theorem dK3_init_15 : decode cK3_init 15 = .ok (.newarray .int, 2) := by decide +kernel
theorem dK3_init_17 : decode cK3_init 17 = .ok (.putfield 15, 3) := by decide +kernel
theorem dK3_init_20 : decode cK3_init 20 = .ok (.aload_n 0, 1) := by decide +kernel
theorem dK3_init_21 : decode cK3_init 21 = .ok (.bipush 12, 2) := by decide +kernel
theorem dK3_init_23 : decode cK3_init 23 = .ok (.newarray .int, 2) := by decide +kernel
theorem dK3_init_25 : decode cK3_init 25 = .ok (.putfield 19, 3) := by decide +kernel
theorem dK3_init_28 : decode cK3_init 28 = .ok (.aload_n 0, 1) := by decide +kernel
theorem dK3_init_29 : decode cK3_init 29 = .ok (.iconst 0, 1) := by decide +kernel
theorem dK3_init_30 : decode cK3_init 30 = .ok (.putfield 22, 3) := by decide +kernel
theorem dK3_init_33 : decode cK3_init 33 = .ok (.return_, 1) := by decide +kernel
theorem dK4_init_0 : decode cK4_init 0 = .ok (.aload_n 0, 1) := by decide +kernel
theorem dK4_init_1 : decode cK4_init 1 = .ok (.invokespecial 3, 3) := by decide +kernel
theorem dK4_init_4 : decode cK4_init 4 = .ok (.aload_n 0, 1) := by decide +kernel
theorem dK4_init_5 : decode cK4_init 5 = .ok (.bipush 30, 2) := by decide +kernel
theorem dK4_init_7 : decode cK4_init 7 = .ok (.newarray .int, 2) := by decide +kernel
theorem dK4_init_9 : decode cK4_init 9 = .ok (.putfield 9, 3) := by decide +kernel
theorem dK4_init_12 : decode cK4_init 12 = .ok (.aload_n 0, 1) := by decide +kernel
theorem dK4_init_13 : decode cK4_init 13 = .ok (.bipush 30, 2) := by decide +kernel
theorem dK4_init_15 : decode cK4_init 15 = .ok (.newarray .int, 2) := by decide +kernel
theorem dK4_init_17 : decode cK4_init 17 = .ok (.putfield 15, 3) := by decide +kernel
theorem dK4_init_20 : decode cK4_init 20 = .ok (.aload_n 0, 1) := by decide +kernel
theorem dK4_init_21 : decode cK4_init 21 = .ok (.iconst 0, 1) := by decide +kernel
theorem dK4_init_22 : decode cK4_init 22 = .ok (.putfield 18, 3) := by decide +kernel
theorem dK4_init_25 : decode cK4_init 25 = .ok (.return_, 1) := by decide +kernel
theorem dJ5_newBytesLength_0 : decode cJ5_newBytesLength 0 = .ok (.iload_n 0, 1) := by decide +kernel
theorem dJ5_newBytesLength_1 : decode cJ5_newBytesLength 1 = .ok (.ifCond .ge 11, 3) := by decide +kernel
theorem dJ5_newBytesLength_12 : decode cJ5_newBytesLength 12 = .ok (.iload_n 0, 1) := by decide +kernel
theorem dJ5_newBytesLength_13 : decode cJ5_newBytesLength 13 = .ok (.ldc 20, 2) := by decide +kernel
theorem dJ5_newBytesLength_15 : decode cJ5_newBytesLength 15 = .ok (.if_icmp .lt 40, 3) := by decide +kernel
theorem dJ5_newBytesLength_18 : decode cJ5_newBytesLength 18 = .ok (.new 21, 3) := by decide +kernel
theorem dJ5_newBytesLength_55 : decode cJ5_newBytesLength 55 = .ok (.iload_n 0, 1) := by decide +kernel
theorem dJ5_newBytesLength_56 : decode cJ5_newBytesLength 56 = .ok (.iconst 1, 1) := by decide +kernel
theorem dJ5_newBytesLength_57 : decode cJ5_newBytesLength 57 = .ok (.ishl, 1) := by decide +kernel
theorem dJ5_newBytesLength_58 : decode cJ5_newBytesLength 58 = .ok (.ireturn, 1) := by decide +kernel
theorem dK0_triple_0 : decode cK0_triple 0 = .ok (.aload_n 0, 1) := by decide +kernel
theorem dK0_triple_1 : decode cK0_triple 1 = .ok (.iconst 1, 1) := by decide +kernel
theorem dK0_triple_2 : decode cK0_triple 2 = .ok (.iload_n 1, 1) := by decide +kernel
theorem dK0_triple_3 : decode cK0_triple 3 = .ok (.iload_n 2, 1) := by decide +kernel
theorem dK0_triple_4 : decode cK0_triple 4 = .ok (.iload_n 3, 1) := by decide +kernel
theorem dK0_triple_5 : decode cK0_triple 5 = .ok (.invokevirtual 61, 3) := by decide +kernel
theorem dK0_triple_8 : decode cK0_triple 8 = .ok (.ireturn, 1) := by decide +kernel
theorem dK0_putOrTake_0 : decode cK0_putOrTake 0 = .ok (.iload_n 2, 1) := by decide +kernel
theorem dK0_putOrTake_1 : decode cK0_putOrTake 1 = .ok (.iload_n 3, 1) := by decide +kernel
theorem dK0_putOrTake_2 : decode cK0_putOrTake 2 = .ok (.iload 4, 2) := by decide +kernel
theorem dK0_putOrTake_4 : decode cK0_putOrTake 4 = .ok (.invokestatic 104, 3) := by decide +kernel
theorem dK0_putOrTake_7 : decode cK0_putOrTake 7 = .ok (.ifCond .ne 5, 3) := by decide +kernel
theorem dK0_putOrTake_10 : decode cK0_putOrTake 10 = .ok (.iconst (-1), 1) := by decide +kernel
theorem dK0_putOrTake_11 : decode cK0_putOrTake 11 = .ok (.ireturn, 1) := by decide +kernel
theorem dK0_putOrTake_12 : decode cK0_putOrTake 12 = .ok (.aload_n 0, 1) := by decide +kernel
theorem dK0_putOrTake_13 : decode cK0_putOrTake 13 = .ok (.getfield 12, 3) := by decide +kernel
theorem dK0_putOrTake_16 : decode cK0_putOrTake 16 = .ok (.iload_n 2, 1) := by decide +kernel
theorem dK0_putOrTake_17 : decode cK0_putOrTake 17 = .ok (.iload_n 3, 1) := by decide +kernel
theorem dK0_putOrTake_18 : decode cK0_putOrTake 18 = .ok (.iload 4, 2) := by decide +kernel
theorem dK0_putOrTake_20 : decode cK0_putOrTake 20 = .ok (.invokevirtual 126, 3) := by decide +kernel
theorem dK0_putOrTake_23 : decode cK0_putOrTake 23 = .ok (.iload_n 1, 1) := by decide +kernel
theorem dK0_putOrTake_24 : decode cK0_putOrTake 24 = .ok (.if_icmp .ne 5, 3) := by decide +kernel
theorem dK0_putOrTake_27 : decode cK0_putOrTake 27 = .ok (.iconst 0, 1) := by decide +kernel
theorem dK0_putOrTake_28 : decode cK0_putOrTake 28 = .ok (.ireturn, 1) := by decide +kernel
theorem dK0_putOrTake_29 : decode cK0_putOrTake 29 = .ok (.aload_n 0, 1) := by decide +kernel
theorem dK0_putOrTake_30 : decode cK0_putOrTake 30 = .ok (.getfield 12, 3) := by decide +kernel
theorem dK0_putOrTake_33 : decode cK0_putOrTake 33 = .ok (.iload_n 1, 1) := by decide +kernel
theorem dK0_putOrTake_34 : decode cK0_putOrTake 34 = .ok (.iload_n 2, 1) := by decide +kernel
theorem dK0_putOrTake_35 : decode cK0_putOrTake 35 = .ok (.iload_n 3, 1) := by decide +kernel
theorem dK0_putOrTake_36 : decode cK0_putOrTake 36 = .ok (.iload 4, 2) := by decide +kernel
theorem dK0_putOrTake_38 : decode cK0_putOrTake 38 = .ok (.invokestatic 108, 3) := by decide +kernel
theorem dK0_putOrTake_41 : decode cK0_putOrTake 41 = .ok (.invokevirtual 206, 3) := by decide +kernel
theorem dK0_putOrTake_44 : decode cK0_putOrTake 44 = .ok (.aload_n 0, 1) := by decide +kernel
theorem dK0_putOrTake_45 : decode cK0_putOrTake 45 = .ok (.getfield 12, 3) := by decide +kernel
theorem dK0_putOrTake_48 : decode cK0_putOrTake 48 = .ok (.invokevirtual 167, 3) := by decide +kernel
theorem dK0_putOrTake_51 : decode cK0_putOrTake 51 = .ok (.iconst 1, 1) := by decide +kernel
theorem dK0_putOrTake_52 : decode cK0_putOrTake 52 = .ok (.ireturn, 1) := by decide +kernel
theorem dK0_isTriple_0 : decode cK0_isTriple 0 = .ok (.iload_n 0, 1) := by decide +kernel
theorem dK0_isTriple_1 : decode cK0_isTriple 1 = .ok (.invokestatic 65, 3) := by decide +kernel
theorem dK0_isTriple_4 : decode cK0_isTriple 4 = .ok (.ifCond .eq 21, 3) := by decide +kernel
theorem dK0_isTriple_7 : decode cK0_isTriple 7 = .ok (.iload_n 1, 1) := by decide +kernel
theorem dK0_isTriple_8 : decode cK0_isTriple 8 = .ok (.invokestatic 69, 3) := by decide +kernel
theorem dK0_isTriple_11 : decode cK0_isTriple 11 = .ok (.ifCond .eq 14, 3) := by decide +kernel
theorem dK0_isTriple_14 : decode cK0_isTriple 14 = .ok (.iload_n 2, 1) := by decide +kernel
theorem dK0_isTriple_15 : decode cK0_isTriple 15 = .ok (.invokestatic 65, 3) := by decide +kernel
theorem dK0_isTriple_18 : decode cK0_isTriple 18 = .ok (.ifCond .eq 7, 3) := by decide +kernel
theorem dK0_isTriple_21 : decode cK0_isTriple 21 = .ok (.iconst 1, 1) := by decide +kernel
theorem dK0_isTriple_22 : decode cK0_isTriple 22 = .ok (.goto 4, 3) := by decide +kernel
theorem dK0_isTriple_25 : decode cK0_isTriple 25 = .ok (.iconst 0, 1) := by decide +kernel
theorem dK0_isTriple_26 : decode cK0_isTriple 26 = .ok (.ireturn, 1) := by decide +kernel
theorem dK0_isNode_0 : decode cK0_isNode 0 = .ok (.iload_n 0, 1) := by decide +kernel
theorem dK0_isNode_1 : decode cK0_isNode 1 = .ok (.ifCond .lt 13, 3) := by decide +kernel
theorem dK0_isNode_4 : decode cK0_isNode 4 = .ok (.iload_n 0, 1) := by decide +kernel
theorem dK0_isNode_5 : decode cK0_isNode 5 = .ok (.bipush 12, 2) := by decide +kernel
theorem dK0_isNode_7 : decode cK0_isNode 7 = .ok (.if_icmp .ge 7, 3) := by decide +kernel
theorem dK0_isNode_10 : decode cK0_isNode 10 = .ok (.iconst 1, 1) := by decide +kernel
theorem dK0_isNode_11 : decode cK0_isNode 11 = .ok (.goto 4, 3) := by decide +kernel
theorem dK0_isNode_14 : decode cK0_isNode 14 = .ok (.iconst 0, 1) := by decide +kernel
theorem dK0_isNode_15 : decode cK0_isNode 15 = .ok (.ireturn, 1) := by decide +kernel
theorem dK0_isPredicate_0 : decode cK0_isPredicate 0 = .ok (.iload_n 0, 1) := by decide +kernel
theorem dK0_isPredicate_1 : decode cK0_isPredicate 1 = .ok (.ifCond .lt 13, 3) := by decide +kernel
theorem dK0_isPredicate_4 : decode cK0_isPredicate 4 = .ok (.iload_n 0, 1) := by decide +kernel
theorem dK0_isPredicate_5 : decode cK0_isPredicate 5 = .ok (.bipush 6, 2) := by decide +kernel
theorem dK0_isPredicate_7 : decode cK0_isPredicate 7 = .ok (.if_icmp .ge 7, 3) := by decide +kernel
theorem dK0_isPredicate_10 : decode cK0_isPredicate 10 = .ok (.iconst 1, 1) := by decide +kernel
theorem dK0_isPredicate_11 : decode cK0_isPredicate 11 = .ok (.goto 4, 3) := by decide +kernel
theorem dK0_isPredicate_14 : decode cK0_isPredicate 14 = .ok (.iconst 0, 1) := by decide +kernel
theorem dK0_isPredicate_15 : decode cK0_isPredicate 15 = .ok (.ireturn, 1) := by decide +kernel
theorem dK1_has_0 : decode cK1_has 0 = .ok (.aload_n 0, 1) := by decide +kernel
theorem dK1_has_1 : decode cK1_has 1 = .ok (.iload_n 1, 1) := by decide +kernel
theorem dK1_has_2 : decode cK1_has 2 = .ok (.iload_n 2, 1) := by decide +kernel
theorem dK1_has_3 : decode cK1_has 3 = .ok (.invokevirtual 25, 3) := by decide +kernel
theorem dK1_has_6 : decode cK1_has 6 = .ok (.iload_n 3, 1) := by decide +kernel
theorem dK1_has_7 : decode cK1_has 7 = .ok (.invokestatic 29, 3) := by decide +kernel
theorem dK1_has_10 : decode cK1_has 10 = .ok (.ireturn, 1) := by decide +kernel
theorem dK1_objectsOf_0 : decode cK1_objectsOf 0 = .ok (.aload_n 0, 1) := by decide +kernel
theorem dK1_objectsOf_1 : decode cK1_objectsOf 1 = .ok (.getfield 9, 3) := by decide +kernel
theorem dK1_objectsOf_4 : decode cK1_objectsOf 4 = .ok (.bipush 6, 2) := by decide +kernel
theorem dK1_objectsOf_6 : decode cK1_objectsOf 6 = .ok (.iload_n 1, 1) := by decide +kernel
theorem dK1_objectsOf_7 : decode cK1_objectsOf 7 = .ok (.imul, 1) := by decide +kernel
theorem dK1_objectsOf_8 : decode cK1_objectsOf 8 = .ok (.iload_n 2, 1) := by decide +kernel
theorem dK1_objectsOf_9 : decode cK1_objectsOf 9 = .ok (.iadd, 1) := by decide +kernel
theorem dK1_objectsOf_10 : decode cK1_objectsOf 10 = .ok (.iaload, 1) := by decide +kernel
theorem dK1_objectsOf_11 : decode cK1_objectsOf 11 = .ok (.ireturn, 1) := by decide +kernel
theorem dK0_hasMember_0 : decode cK0_hasMember 0 = .ok (.iload_n 0, 1) := by decide +kernel
theorem dK0_hasMember_1 : decode cK0_hasMember 1 = .ok (.iload_n 1, 1) := by decide +kernel
theorem dK0_hasMember_2 : decode cK0_hasMember 2 = .ok (.ishr, 1) := by decide +kernel
theorem dK0_hasMember_3 : decode cK0_hasMember 3 = .ok (.iconst 1, 1) := by decide +kernel
theorem dK0_hasMember_4 : decode cK0_hasMember 4 = .ok (.iand, 1) := by decide +kernel
theorem dK0_hasMember_5 : decode cK0_hasMember 5 = .ok (.ifCond .eq 7, 3) := by decide +kernel
theorem dK0_hasMember_8 : decode cK0_hasMember 8 = .ok (.iconst 1, 1) := by decide +kernel
theorem dK0_hasMember_9 : decode cK0_hasMember 9 = .ok (.goto 4, 3) := by decide +kernel
theorem dK0_hasMember_12 : decode cK0_hasMember 12 = .ok (.iconst 0, 1) := by decide +kernel
theorem dK0_hasMember_13 : decode cK0_hasMember 13 = .ok (.ireturn, 1) := by decide +kernel
theorem dK0_codeOf_0 : decode cK0_codeOf 0 = .ok (.bipush 72, 2) := by decide +kernel
theorem dK0_codeOf_2 : decode cK0_codeOf 2 = .ok (.iload_n 0, 1) := by decide +kernel
theorem dK0_codeOf_3 : decode cK0_codeOf 3 = .ok (.imul, 1) := by decide +kernel
theorem dK0_codeOf_4 : decode cK0_codeOf 4 = .ok (.bipush 12, 2) := by decide +kernel
theorem dK0_codeOf_6 : decode cK0_codeOf 6 = .ok (.iload_n 1, 1) := by decide +kernel
theorem dK0_codeOf_7 : decode cK0_codeOf 7 = .ok (.imul, 1) := by decide +kernel
theorem dK0_codeOf_8 : decode cK0_codeOf 8 = .ok (.iadd, 1) := by decide +kernel
theorem dK0_codeOf_9 : decode cK0_codeOf 9 = .ok (.iload_n 2, 1) := by decide +kernel
theorem dK0_codeOf_10 : decode cK0_codeOf 10 = .ok (.iadd, 1) := by decide +kernel
theorem dK0_codeOf_11 : decode cK0_codeOf 11 = .ok (.ireturn, 1) := by decide +kernel
theorem dK1_alter_0 : decode cK1_alter 0 = .ok (.iload_n 2, 1) := by decide +kernel
theorem dK1_alter_1 : decode cK1_alter 1 = .ok (.bipush 12, 2) := by decide +kernel
theorem dK1_alter_3 : decode cK1_alter 3 = .ok (.idiv, 1) := by decide +kernel
theorem dK1_alter_4 : decode cK1_alter 4 = .ok (.istore_n 3, 1) := by decide +kernel
theorem dK1_alter_5 : decode cK1_alter 5 = .ok (.iconst 1, 1) := by decide +kernel
theorem dK1_alter_6 : decode cK1_alter 6 = .ok (.iload_n 2, 1) := by decide +kernel
theorem dK1_alter_7 : decode cK1_alter 7 = .ok (.bipush 12, 2) := by decide +kernel
theorem dK1_alter_9 : decode cK1_alter 9 = .ok (.irem, 1) := by decide +kernel
theorem dK1_alter_10 : decode cK1_alter 10 = .ok (.ishl, 1) := by decide +kernel
theorem dK1_alter_11 : decode cK1_alter 11 = .ok (.istore 4, 2) := by decide +kernel
theorem dK1_alter_13 : decode cK1_alter 13 = .ok (.aload_n 0, 1) := by decide +kernel
theorem dK1_alter_14 : decode cK1_alter 14 = .ok (.getfield 9, 3) := by decide +kernel
theorem dK1_alter_17 : decode cK1_alter 17 = .ok (.iload_n 3, 1) := by decide +kernel
theorem dK1_alter_18 : decode cK1_alter 18 = .ok (.iload_n 1, 1) := by decide +kernel
theorem dK1_alter_19 : decode cK1_alter 19 = .ok (.ifCond .eq 15, 3) := by decide +kernel
theorem dK1_alter_22 : decode cK1_alter 22 = .ok (.aload_n 0, 1) := by decide +kernel
theorem dK1_alter_23 : decode cK1_alter 23 = .ok (.getfield 9, 3) := by decide +kernel
theorem dK1_alter_26 : decode cK1_alter 26 = .ok (.iload_n 3, 1) := by decide +kernel
theorem dK1_alter_27 : decode cK1_alter 27 = .ok (.iaload, 1) := by decide +kernel
theorem dK1_alter_28 : decode cK1_alter 28 = .ok (.iload 4, 2) := by decide +kernel
theorem dK1_alter_30 : decode cK1_alter 30 = .ok (.ior, 1) := by decide +kernel
theorem dK1_alter_31 : decode cK1_alter 31 = .ok (.goto 14, 3) := by decide +kernel
theorem dK1_alter_34 : decode cK1_alter 34 = .ok (.aload_n 0, 1) := by decide +kernel
theorem dK1_alter_35 : decode cK1_alter 35 = .ok (.getfield 9, 3) := by decide +kernel
theorem dK1_alter_38 : decode cK1_alter 38 = .ok (.iload_n 3, 1) := by decide +kernel
theorem dK1_alter_39 : decode cK1_alter 39 = .ok (.iaload, 1) := by decide +kernel
theorem dK1_alter_40 : decode cK1_alter 40 = .ok (.iload 4, 2) := by decide +kernel
theorem dK1_alter_42 : decode cK1_alter 42 = .ok (.iconst (-1), 1) := by decide +kernel
theorem dK1_alter_43 : decode cK1_alter 43 = .ok (.ixor, 1) := by decide +kernel
theorem dK1_alter_44 : decode cK1_alter 44 = .ok (.iand, 1) := by decide +kernel
theorem dK1_alter_45 : decode cK1_alter 45 = .ok (.iastore, 1) := by decide +kernel
theorem dK1_alter_46 : decode cK1_alter 46 = .ok (.iload_n 3, 1) := by decide +kernel
theorem dK1_alter_47 : decode cK1_alter 47 = .ok (.bipush 6, 2) := by decide +kernel
theorem dK1_alter_49 : decode cK1_alter 49 = .ok (.irem, 1) := by decide +kernel
theorem dK1_alter_50 : decode cK1_alter 50 = .ok (.istore 5, 2) := by decide +kernel
theorem dK1_alter_52 : decode cK1_alter 52 = .ok (.iload 5, 2) := by decide +kernel
theorem dK1_alter_54 : decode cK1_alter 54 = .ok (.ifCond .eq 9, 3) := by decide +kernel
theorem dK1_alter_57 : decode cK1_alter 57 = .ok (.iload 5, 2) := by decide +kernel
theorem dK1_alter_59 : decode cK1_alter 59 = .ok (.iconst 1, 1) := by decide +kernel
theorem dK1_alter_60 : decode cK1_alter 60 = .ok (.if_icmp .ne 8, 3) := by decide +kernel
theorem dK1_alter_63 : decode cK1_alter 63 = .ok (.aload_n 0, 1) := by decide +kernel
theorem dK1_alter_64 : decode cK1_alter 64 = .ok (.iconst 0, 1) := by decide +kernel
theorem dK1_alter_65 : decode cK1_alter 65 = .ok (.putfield 21, 3) := by decide +kernel
theorem dK1_alter_68 : decode cK1_alter 68 = .ok (.return_, 1) := by decide +kernel
theorem dK1_sortIntoClasses_0 : decode cK1_sortIntoClasses 0 = .ok (.aload_n 0, 1) := by decide +kernel
theorem dK1_sortIntoClasses_1 : decode cK1_sortIntoClasses 1 = .ok (.getfield 21, 3) := by decide +kernel
theorem dK1_sortIntoClasses_4 : decode cK1_sortIntoClasses 4 = .ok (.ifCond .eq 4, 3) := by decide +kernel
theorem dK1_sortIntoClasses_7 : decode cK1_sortIntoClasses 7 = .ok (.return_, 1) := by decide +kernel
theorem dK1_sortIntoClasses_8 : decode cK1_sortIntoClasses 8 = .ok (.aload_n 0, 1) := by decide +kernel
theorem dK1_sortIntoClasses_9 : decode cK1_sortIntoClasses 9 = .ok (.getfield 15, 3) := by decide +kernel
theorem dK1_sortIntoClasses_12 : decode cK1_sortIntoClasses 12 = .ok (.iconst 0, 1) := by decide +kernel
theorem dK1_sortIntoClasses_13 : decode cK1_sortIntoClasses 13 = .ok (.invokestatic 39, 3) := by decide +kernel
theorem dK1_sortIntoClasses_16 : decode cK1_sortIntoClasses 16 = .ok (.iconst 0, 1) := by decide +kernel
theorem dK1_sortIntoClasses_17 : decode cK1_sortIntoClasses 17 = .ok (.istore_n 1, 1) := by decide +kernel
theorem dK1_sortIntoClasses_18 : decode cK1_sortIntoClasses 18 = .ok (.iload_n 1, 1) := by decide +kernel
theorem dK1_sortIntoClasses_19 : decode cK1_sortIntoClasses 19 = .ok (.bipush 12, 2) := by decide +kernel
theorem dK1_sortIntoClasses_21 : decode cK1_sortIntoClasses 21 = .ok (.if_icmp .ge 53, 3) := by decide +kernel
theorem dK1_sortIntoClasses_24 : decode cK1_sortIntoClasses 24 = .ok (.aload_n 0, 1) := by decide +kernel
theorem dK1_sortIntoClasses_25 : decode cK1_sortIntoClasses 25 = .ok (.iload_n 1, 1) := by decide +kernel
theorem dK1_sortIntoClasses_26 : decode cK1_sortIntoClasses 26 = .ok (.invokevirtual 45, 3) := by decide +kernel
theorem dK1_sortIntoClasses_29 : decode cK1_sortIntoClasses 29 = .ok (.istore_n 2, 1) := by decide +kernel
theorem dK1_sortIntoClasses_30 : decode cK1_sortIntoClasses 30 = .ok (.iconst 0, 1) := by decide +kernel
theorem dK1_sortIntoClasses_31 : decode cK1_sortIntoClasses 31 = .ok (.istore_n 3, 1) := by decide +kernel
theorem dK1_sortIntoClasses_32 : decode cK1_sortIntoClasses 32 = .ok (.iload_n 3, 1) := by decide +kernel
theorem dK1_sortIntoClasses_33 : decode cK1_sortIntoClasses 33 = .ok (.bipush 12, 2) := by decide +kernel
theorem dK1_sortIntoClasses_35 : decode cK1_sortIntoClasses 35 = .ok (.if_icmp .ge 33, 3) := by decide +kernel
theorem dK1_sortIntoClasses_38 : decode cK1_sortIntoClasses 38 = .ok (.iload_n 2, 1) := by decide +kernel
theorem dK1_sortIntoClasses_39 : decode cK1_sortIntoClasses 39 = .ok (.ifCond .eq 29, 3) := by decide +kernel
theorem dK1_sortIntoClasses_42 : decode cK1_sortIntoClasses 42 = .ok (.iload_n 2, 1) := by decide +kernel
theorem dK1_sortIntoClasses_43 : decode cK1_sortIntoClasses 43 = .ok (.iload_n 3, 1) := by decide +kernel
theorem dK1_sortIntoClasses_44 : decode cK1_sortIntoClasses 44 = .ok (.invokestatic 29, 3) := by decide +kernel
theorem dK1_sortIntoClasses_47 : decode cK1_sortIntoClasses 47 = .ok (.ifCond .eq 15, 3) := by decide +kernel
theorem dK1_sortIntoClasses_50 : decode cK1_sortIntoClasses 50 = .ok (.aload_n 0, 1) := by decide +kernel
theorem dK1_sortIntoClasses_51 : decode cK1_sortIntoClasses 51 = .ok (.getfield 15, 3) := by decide +kernel
theorem dK1_sortIntoClasses_54 : decode cK1_sortIntoClasses 54 = .ok (.iload_n 3, 1) := by decide +kernel
theorem dK1_sortIntoClasses_55 : decode cK1_sortIntoClasses 55 = .ok (.dup2, 1) := by decide +kernel
theorem dK1_sortIntoClasses_56 : decode cK1_sortIntoClasses 56 = .ok (.iaload, 1) := by decide +kernel
theorem dK1_sortIntoClasses_57 : decode cK1_sortIntoClasses 57 = .ok (.iconst 1, 1) := by decide +kernel
theorem dK1_sortIntoClasses_58 : decode cK1_sortIntoClasses 58 = .ok (.iload_n 1, 1) := by decide +kernel
theorem dK1_sortIntoClasses_59 : decode cK1_sortIntoClasses 59 = .ok (.ishl, 1) := by decide +kernel
theorem dK1_sortIntoClasses_60 : decode cK1_sortIntoClasses 60 = .ok (.ior, 1) := by decide +kernel
theorem dK1_sortIntoClasses_61 : decode cK1_sortIntoClasses 61 = .ok (.iastore, 1) := by decide +kernel
theorem dK1_sortIntoClasses_62 : decode cK1_sortIntoClasses 62 = .ok (.iinc 3 1, 3) := by decide +kernel
theorem dK1_sortIntoClasses_65 : decode cK1_sortIntoClasses 65 = .ok (.goto (-33), 3) := by decide +kernel
theorem dK1_sortIntoClasses_68 : decode cK1_sortIntoClasses 68 = .ok (.iinc 1 1, 3) := by decide +kernel
theorem dK1_sortIntoClasses_71 : decode cK1_sortIntoClasses 71 = .ok (.goto (-53), 3) := by decide +kernel
theorem dK1_sortIntoClasses_74 : decode cK1_sortIntoClasses 74 = .ok (.aload_n 0, 1) := by decide +kernel
theorem dK1_sortIntoClasses_75 : decode cK1_sortIntoClasses 75 = .ok (.iconst 1, 1) := by decide +kernel
theorem dK1_sortIntoClasses_76 : decode cK1_sortIntoClasses 76 = .ok (.putfield 21, 3) := by decide +kernel
theorem dK1_sortIntoClasses_79 : decode cK1_sortIntoClasses 79 = .ok (.return_, 1) := by decide +kernel
theorem dJ6_fill_aIIV_0 : decode cJ6_fill_aIIV 0 = .ok (.iconst 0, 1) := by decide +kernel
theorem dJ6_fill_aIIV_1 : decode cJ6_fill_aIIV 1 = .ok (.istore_n 2, 1) := by decide +kernel
theorem dJ6_fill_aIIV_2 : decode cJ6_fill_aIIV 2 = .ok (.aload_n 0, 1) := by decide +kernel
theorem dJ6_fill_aIIV_3 : decode cJ6_fill_aIIV 3 = .ok (.arraylength, 1) := by decide +kernel
theorem dJ6_fill_aIIV_4 : decode cJ6_fill_aIIV 4 = .ok (.istore_n 3, 1) := by decide +kernel
theorem dJ6_fill_aIIV_5 : decode cJ6_fill_aIIV 5 = .ok (.iload_n 2, 1) := by decide +kernel
theorem dJ6_fill_aIIV_6 : decode cJ6_fill_aIIV 6 = .ok (.iload_n 3, 1) := by decide +kernel
theorem dJ6_fill_aIIV_7 : decode cJ6_fill_aIIV 7 = .ok (.if_icmp .ge 13, 3) := by decide +kernel
theorem dJ6_fill_aIIV_10 : decode cJ6_fill_aIIV 10 = .ok (.aload_n 0, 1) := by decide +kernel
theorem dJ6_fill_aIIV_11 : decode cJ6_fill_aIIV 11 = .ok (.iload_n 2, 1) := by decide +kernel
theorem dJ6_fill_aIIV_12 : decode cJ6_fill_aIIV 12 = .ok (.iload_n 1, 1) := by decide +kernel
theorem dJ6_fill_aIIV_13 : decode cJ6_fill_aIIV 13 = .ok (.iastore, 1) := by decide +kernel
theorem dJ6_fill_aIIV_14 : decode cJ6_fill_aIIV 14 = .ok (.iinc 2 1, 3) := by decide +kernel
theorem dJ6_fill_aIIV_17 : decode cJ6_fill_aIIV 17 = .ok (.goto (-12), 3) := by decide +kernel
theorem dJ6_fill_aIIV_20 : decode cJ6_fill_aIIV 20 = .ok (.return_, 1) := by decide +kernel
theorem dK1_classesOf_0 : decode cK1_classesOf 0 = .ok (.aload_n 0, 1) := by decide +kernel
theorem dK1_classesOf_1 : decode cK1_classesOf 1 = .ok (.iload_n 1, 1) := by decide +kernel
theorem dK1_classesOf_2 : decode cK1_classesOf 2 = .ok (.iconst 0, 1) := by decide +kernel
theorem dK1_classesOf_3 : decode cK1_classesOf 3 = .ok (.invokevirtual 25, 3) := by decide +kernel
theorem dK1_classesOf_6 : decode cK1_classesOf 6 = .ok (.istore_n 2, 1) := by decide +kernel
theorem dK1_classesOf_7 : decode cK1_classesOf 7 = .ok (.iconst 0, 1) := by decide +kernel
theorem dK1_classesOf_8 : decode cK1_classesOf 8 = .ok (.istore_n 3, 1) := by decide +kernel
theorem dK1_classesOf_9 : decode cK1_classesOf 9 = .ok (.iconst 0, 1) := by decide +kernel
theorem dK1_classesOf_10 : decode cK1_classesOf 10 = .ok (.istore 4, 2) := by decide +kernel
theorem dK1_classesOf_12 : decode cK1_classesOf 12 = .ok (.iload 4, 2) := by decide +kernel
theorem dK1_classesOf_14 : decode cK1_classesOf 14 = .ok (.bipush 12, 2) := by decide +kernel
theorem dK1_classesOf_16 : decode cK1_classesOf 16 = .ok (.if_icmp .ge 41, 3) := by decide +kernel
theorem dK1_classesOf_19 : decode cK1_classesOf 19 = .ok (.iload_n 3, 1) := by decide +kernel
theorem dK1_classesOf_20 : decode cK1_classesOf 20 = .ok (.iload_n 2, 1) := by decide +kernel
theorem dK1_classesOf_21 : decode cK1_classesOf 21 = .ok (.if_icmp .eq 36, 3) := by decide +kernel
theorem dK1_classesOf_24 : decode cK1_classesOf 24 = .ok (.iload_n 2, 1) := by decide +kernel
theorem dK1_classesOf_25 : decode cK1_classesOf 25 = .ok (.iload_n 3, 1) := by decide +kernel
theorem dK1_classesOf_26 : decode cK1_classesOf 26 = .ok (.iconst (-1), 1) := by decide +kernel
theorem dK1_classesOf_27 : decode cK1_classesOf 27 = .ok (.ixor, 1) := by decide +kernel
theorem dK1_classesOf_28 : decode cK1_classesOf 28 = .ok (.iand, 1) := by decide +kernel
theorem dK1_classesOf_29 : decode cK1_classesOf 29 = .ok (.invokestatic 52, 3) := by decide +kernel
theorem dK1_classesOf_32 : decode cK1_classesOf 32 = .ok (.istore 5, 2) := by decide +kernel
theorem dK1_classesOf_34 : decode cK1_classesOf 34 = .ok (.iload_n 3, 1) := by decide +kernel
theorem dK1_classesOf_35 : decode cK1_classesOf 35 = .ok (.iconst 1, 1) := by decide +kernel
theorem dK1_classesOf_36 : decode cK1_classesOf 36 = .ok (.iload 5, 2) := by decide +kernel
theorem dK1_classesOf_38 : decode cK1_classesOf 38 = .ok (.ishl, 1) := by decide +kernel
theorem dK1_classesOf_39 : decode cK1_classesOf 39 = .ok (.ior, 1) := by decide +kernel
theorem dK1_classesOf_40 : decode cK1_classesOf 40 = .ok (.istore_n 3, 1) := by decide +kernel
theorem dK1_classesOf_41 : decode cK1_classesOf 41 = .ok (.iload_n 2, 1) := by decide +kernel
theorem dK1_classesOf_42 : decode cK1_classesOf 42 = .ok (.aload_n 0, 1) := by decide +kernel
theorem dK1_classesOf_43 : decode cK1_classesOf 43 = .ok (.iload 5, 2) := by decide +kernel
theorem dK1_classesOf_45 : decode cK1_classesOf 45 = .ok (.iconst 1, 1) := by decide +kernel
theorem dK1_classesOf_46 : decode cK1_classesOf 46 = .ok (.invokevirtual 25, 3) := by decide +kernel
theorem dK1_classesOf_49 : decode cK1_classesOf 49 = .ok (.ior, 1) := by decide +kernel
theorem dK1_classesOf_50 : decode cK1_classesOf 50 = .ok (.istore_n 2, 1) := by decide +kernel
theorem dK1_classesOf_51 : decode cK1_classesOf 51 = .ok (.iinc 4 1, 3) := by decide +kernel
theorem dK1_classesOf_54 : decode cK1_classesOf 54 = .ok (.goto (-42), 3) := by decide +kernel
theorem dK1_classesOf_57 : decode cK1_classesOf 57 = .ok (.iload_n 2, 1) := by decide +kernel
theorem dK1_classesOf_58 : decode cK1_classesOf 58 = .ok (.ireturn, 1) := by decide +kernel
theorem dK1_least_0 : decode cK1_least 0 = .ok (.iload_n 0, 1) := by decide +kernel
theorem dK1_least_1 : decode cK1_least 1 = .ok (.invokestatic 62, 3) := by decide +kernel
theorem dK1_least_4 : decode cK1_least 4 = .ok (.bipush 11, 2) := by decide +kernel
theorem dK1_least_6 : decode cK1_least 6 = .ok (.invokestatic 67, 3) := by decide +kernel
theorem dK1_least_9 : decode cK1_least 9 = .ok (.ireturn, 1) := by decide +kernel
theorem dJ2_numberOfTrailingZeros_0 : decode cJ2_numberOfTrailingZeros 0 = .ok (.iload_n 0, 1) := by decide +kernel
theorem dJ2_numberOfTrailingZeros_1 : decode cJ2_numberOfTrailingZeros 1 = .ok (.iconst (-1), 1) := by decide +kernel
theorem dJ2_numberOfTrailingZeros_2 : decode cJ2_numberOfTrailingZeros 2 = .ok (.ixor, 1) := by decide +kernel
theorem dJ2_numberOfTrailingZeros_3 : decode cJ2_numberOfTrailingZeros 3 = .ok (.iload_n 0, 1) := by decide +kernel
theorem dJ2_numberOfTrailingZeros_4 : decode cJ2_numberOfTrailingZeros 4 = .ok (.iconst 1, 1) := by decide +kernel
theorem dJ2_numberOfTrailingZeros_5 : decode cJ2_numberOfTrailingZeros 5 = .ok (.isub, 1) := by decide +kernel
theorem dJ2_numberOfTrailingZeros_6 : decode cJ2_numberOfTrailingZeros 6 = .ok (.iand, 1) := by decide +kernel
theorem dJ2_numberOfTrailingZeros_7 : decode cJ2_numberOfTrailingZeros 7 = .ok (.istore_n 0, 1) := by decide +kernel
theorem dJ2_numberOfTrailingZeros_8 : decode cJ2_numberOfTrailingZeros 8 = .ok (.iload_n 0, 1) := by decide +kernel
theorem dJ2_numberOfTrailingZeros_9 : decode cJ2_numberOfTrailingZeros 9 = .ok (.ifCond .gt 8, 3) := by decide +kernel
theorem dJ2_numberOfTrailingZeros_12 : decode cJ2_numberOfTrailingZeros 12 = .ok (.iload_n 0, 1) := by decide +kernel
theorem dJ2_numberOfTrailingZeros_13 : decode cJ2_numberOfTrailingZeros 13 = .ok (.bipush 32, 2) := by decide +kernel
theorem dJ2_numberOfTrailingZeros_15 : decode cJ2_numberOfTrailingZeros 15 = .ok (.iand, 1) := by decide +kernel
theorem dJ2_numberOfTrailingZeros_16 : decode cJ2_numberOfTrailingZeros 16 = .ok (.ireturn, 1) := by decide +kernel
theorem dJ2_numberOfTrailingZeros_17 : decode cJ2_numberOfTrailingZeros 17 = .ok (.iconst 1, 1) := by decide +kernel
theorem dJ2_numberOfTrailingZeros_18 : decode cJ2_numberOfTrailingZeros 18 = .ok (.istore_n 1, 1) := by decide +kernel
theorem dJ2_numberOfTrailingZeros_19 : decode cJ2_numberOfTrailingZeros 19 = .ok (.iload_n 0, 1) := by decide +kernel
theorem dJ2_numberOfTrailingZeros_20 : decode cJ2_numberOfTrailingZeros 20 = .ok (.ldc_w 264, 3) := by decide +kernel
theorem dJ2_numberOfTrailingZeros_23 : decode cJ2_numberOfTrailingZeros 23 = .ok (.if_icmp .le 11, 3) := by decide +kernel
theorem dJ2_numberOfTrailingZeros_26 : decode cJ2_numberOfTrailingZeros 26 = .ok (.iinc 1 16, 3) := by decide +kernel
theorem dJ2_numberOfTrailingZeros_29 : decode cJ2_numberOfTrailingZeros 29 = .ok (.iload_n 0, 1) := by decide +kernel
theorem dJ2_numberOfTrailingZeros_30 : decode cJ2_numberOfTrailingZeros 30 = .ok (.bipush 16, 2) := by decide +kernel
theorem dJ2_numberOfTrailingZeros_32 : decode cJ2_numberOfTrailingZeros 32 = .ok (.iushr, 1) := by decide +kernel
theorem dJ2_numberOfTrailingZeros_33 : decode cJ2_numberOfTrailingZeros 33 = .ok (.istore_n 0, 1) := by decide +kernel
theorem dJ2_numberOfTrailingZeros_34 : decode cJ2_numberOfTrailingZeros 34 = .ok (.iload_n 0, 1) := by decide +kernel
theorem dJ2_numberOfTrailingZeros_35 : decode cJ2_numberOfTrailingZeros 35 = .ok (.sipush 256, 3) := by decide +kernel
theorem dJ2_numberOfTrailingZeros_38 : decode cJ2_numberOfTrailingZeros 38 = .ok (.if_icmp .le 11, 3) := by decide +kernel
theorem dJ2_numberOfTrailingZeros_41 : decode cJ2_numberOfTrailingZeros 41 = .ok (.iinc 1 8, 3) := by decide +kernel
theorem dJ2_numberOfTrailingZeros_44 : decode cJ2_numberOfTrailingZeros 44 = .ok (.iload_n 0, 1) := by decide +kernel
theorem dJ2_numberOfTrailingZeros_45 : decode cJ2_numberOfTrailingZeros 45 = .ok (.bipush 8, 2) := by decide +kernel
theorem dJ2_numberOfTrailingZeros_47 : decode cJ2_numberOfTrailingZeros 47 = .ok (.iushr, 1) := by decide +kernel
theorem dJ2_numberOfTrailingZeros_48 : decode cJ2_numberOfTrailingZeros 48 = .ok (.istore_n 0, 1) := by decide +kernel
theorem dJ2_numberOfTrailingZeros_49 : decode cJ2_numberOfTrailingZeros 49 = .ok (.iload_n 0, 1) := by decide +kernel
theorem dJ2_numberOfTrailingZeros_50 : decode cJ2_numberOfTrailingZeros 50 = .ok (.bipush 16, 2) := by decide +kernel
theorem dJ2_numberOfTrailingZeros_52 : decode cJ2_numberOfTrailingZeros 52 = .ok (.if_icmp .le 10, 3) := by decide +kernel
theorem dJ2_numberOfTrailingZeros_55 : decode cJ2_numberOfTrailingZeros 55 = .ok (.iinc 1 4, 3) := by decide +kernel
theorem dJ2_numberOfTrailingZeros_58 : decode cJ2_numberOfTrailingZeros 58 = .ok (.iload_n 0, 1) := by decide +kernel
theorem dJ2_numberOfTrailingZeros_59 : decode cJ2_numberOfTrailingZeros 59 = .ok (.iconst 4, 1) := by decide +kernel
theorem dJ2_numberOfTrailingZeros_60 : decode cJ2_numberOfTrailingZeros 60 = .ok (.iushr, 1) := by decide +kernel
theorem dJ2_numberOfTrailingZeros_61 : decode cJ2_numberOfTrailingZeros 61 = .ok (.istore_n 0, 1) := by decide +kernel
theorem dJ2_numberOfTrailingZeros_62 : decode cJ2_numberOfTrailingZeros 62 = .ok (.iload_n 0, 1) := by decide +kernel
theorem dJ2_numberOfTrailingZeros_63 : decode cJ2_numberOfTrailingZeros 63 = .ok (.iconst 4, 1) := by decide +kernel
theorem dJ2_numberOfTrailingZeros_64 : decode cJ2_numberOfTrailingZeros 64 = .ok (.if_icmp .le 10, 3) := by decide +kernel
theorem dJ2_numberOfTrailingZeros_67 : decode cJ2_numberOfTrailingZeros 67 = .ok (.iinc 1 2, 3) := by decide +kernel
theorem dJ2_numberOfTrailingZeros_70 : decode cJ2_numberOfTrailingZeros 70 = .ok (.iload_n 0, 1) := by decide +kernel
theorem dJ2_numberOfTrailingZeros_71 : decode cJ2_numberOfTrailingZeros 71 = .ok (.iconst 2, 1) := by decide +kernel
theorem dJ2_numberOfTrailingZeros_72 : decode cJ2_numberOfTrailingZeros 72 = .ok (.iushr, 1) := by decide +kernel
theorem dJ2_numberOfTrailingZeros_73 : decode cJ2_numberOfTrailingZeros 73 = .ok (.istore_n 0, 1) := by decide +kernel
theorem dJ2_numberOfTrailingZeros_74 : decode cJ2_numberOfTrailingZeros 74 = .ok (.iload_n 1, 1) := by decide +kernel
theorem dJ2_numberOfTrailingZeros_75 : decode cJ2_numberOfTrailingZeros 75 = .ok (.iload_n 0, 1) := by decide +kernel
theorem dJ2_numberOfTrailingZeros_76 : decode cJ2_numberOfTrailingZeros 76 = .ok (.iconst 1, 1) := by decide +kernel
theorem dJ2_numberOfTrailingZeros_77 : decode cJ2_numberOfTrailingZeros 77 = .ok (.iushr, 1) := by decide +kernel
theorem dJ2_numberOfTrailingZeros_78 : decode cJ2_numberOfTrailingZeros 78 = .ok (.iadd, 1) := by decide +kernel
theorem dJ2_numberOfTrailingZeros_79 : decode cJ2_numberOfTrailingZeros 79 = .ok (.ireturn, 1) := by decide +kernel
theorem dK0_drop_0 : decode cK0_drop 0 = .ok (.aload_n 0, 1) := by decide +kernel
theorem dK0_drop_1 : decode cK0_drop 1 = .ok (.iconst 0, 1) := by decide +kernel
theorem dK0_drop_2 : decode cK0_drop 2 = .ok (.iload_n 1, 1) := by decide +kernel
theorem dK0_drop_3 : decode cK0_drop 3 = .ok (.iload_n 2, 1) := by decide +kernel
theorem dK0_drop_4 : decode cK0_drop 4 = .ok (.iload_n 3, 1) := by decide +kernel
theorem dK0_drop_5 : decode cK0_drop 5 = .ok (.invokevirtual 61, 3) := by decide +kernel
theorem dK0_drop_8 : decode cK0_drop 8 = .ok (.ireturn, 1) := by decide +kernel
theorem dK0_rule_0 : decode cK0_rule 0 = .ok (.iload_n 2, 1) := by decide +kernel
theorem dK0_rule_1 : decode cK0_rule 1 = .ok (.invokestatic 65, 3) := by decide +kernel
theorem dK0_rule_4 : decode cK0_rule 4 = .ok (.ifCond .eq 19, 3) := by decide +kernel
theorem dK0_rule_7 : decode cK0_rule 7 = .ok (.iload_n 3, 1) := by decide +kernel
theorem dK0_rule_8 : decode cK0_rule 8 = .ok (.invokestatic 69, 3) := by decide +kernel
theorem dK0_rule_11 : decode cK0_rule 11 = .ok (.ifCond .eq 12, 3) := by decide +kernel
theorem dK0_rule_14 : decode cK0_rule 14 = .ok (.iload_n 1, 1) := by decide +kernel
theorem dK0_rule_15 : decode cK0_rule 15 = .ok (.iload 4, 2) := by decide +kernel
theorem dK0_rule_17 : decode cK0_rule 17 = .ok (.invokestatic 72, 3) := by decide +kernel
theorem dK0_rule_20 : decode cK0_rule 20 = .ok (.ifCond .ne 5, 3) := by decide +kernel
theorem dK0_rule_23 : decode cK0_rule 23 = .ok (.iconst (-1), 1) := by decide +kernel
theorem dK0_rule_24 : decode cK0_rule 24 = .ok (.ireturn, 1) := by decide +kernel
theorem dK0_rule_25 : decode cK0_rule 25 = .ok (.aload_n 0, 1) := by decide +kernel
theorem dK0_rule_26 : decode cK0_rule 26 = .ok (.getfield 22, 3) := by decide +kernel
theorem dK0_rule_29 : decode cK0_rule 29 = .ok (.iload_n 1, 1) := by decide +kernel
theorem dK0_rule_30 : decode cK0_rule 30 = .ok (.iload_n 2, 1) := by decide +kernel
theorem dK0_rule_31 : decode cK0_rule 31 = .ok (.iload_n 3, 1) := by decide +kernel
theorem dK0_rule_32 : decode cK0_rule 32 = .ok (.iload 4, 2) := by decide +kernel
theorem dK0_rule_34 : decode cK0_rule 34 = .ok (.invokevirtual 76, 3) := by decide +kernel
theorem dK0_rule_37 : decode cK0_rule 37 = .ok (.ireturn, 1) := by decide +kernel
theorem dK0_fitsKind_0 : decode cK0_fitsKind 0 = .ok (.iload_n 0, 1) := by decide +kernel
theorem dK0_fitsKind_1 : decode cK0_fitsKind 1 = .ok (.tableswitch 65 0 5 #[39, 39, 55, 55, 60, 60], 39) := by decide +kernel
theorem dK0_fitsKind_40 : decode cK0_fitsKind 40 = .ok (.iload_n 1, 1) := by decide +kernel
theorem dK0_fitsKind_41 : decode cK0_fitsKind 41 = .ok (.ifCond .lt 13, 3) := by decide +kernel
theorem dK0_fitsKind_44 : decode cK0_fitsKind 44 = .ok (.iload_n 1, 1) := by decide +kernel
theorem dK0_fitsKind_45 : decode cK0_fitsKind 45 = .ok (.bipush 12, 2) := by decide +kernel
theorem dK0_fitsKind_47 : decode cK0_fitsKind 47 = .ok (.if_icmp .gt 7, 3) := by decide +kernel
theorem dK0_fitsKind_50 : decode cK0_fitsKind 50 = .ok (.iconst 1, 1) := by decide +kernel
theorem dK0_fitsKind_51 : decode cK0_fitsKind 51 = .ok (.goto 4, 3) := by decide +kernel
theorem dK0_fitsKind_54 : decode cK0_fitsKind 54 = .ok (.iconst 0, 1) := by decide +kernel
theorem dK0_fitsKind_55 : decode cK0_fitsKind 55 = .ok (.ireturn, 1) := by decide +kernel
theorem dK0_fitsKind_56 : decode cK0_fitsKind 56 = .ok (.iload_n 1, 1) := by decide +kernel
theorem dK0_fitsKind_57 : decode cK0_fitsKind 57 = .ok (.invokestatic 65, 3) := by decide +kernel
theorem dK0_fitsKind_60 : decode cK0_fitsKind 60 = .ok (.ireturn, 1) := by decide +kernel
theorem dK0_fitsKind_61 : decode cK0_fitsKind 61 = .ok (.iload_n 1, 1) := by decide +kernel
theorem dK0_fitsKind_62 : decode cK0_fitsKind 62 = .ok (.invokestatic 69, 3) := by decide +kernel
theorem dK0_fitsKind_65 : decode cK0_fitsKind 65 = .ok (.ireturn, 1) := by decide +kernel
theorem dK0_fitsKind_66 : decode cK0_fitsKind 66 = .ok (.iconst 0, 1) := by decide +kernel
theorem dK0_fitsKind_67 : decode cK0_fitsKind 67 = .ok (.ireturn, 1) := by decide +kernel
theorem dK2_add_0 : decode cK2_add 0 = .ok (.aload_n 0, 1) := by decide +kernel
theorem dK2_add_1 : decode cK2_add 1 = .ok (.getfield 24, 3) := by decide +kernel
theorem dK2_add_4 : decode cK2_add 4 = .ok (.bipush 10, 2) := by decide +kernel
theorem dK2_add_6 : decode cK2_add 6 = .ok (.if_icmp .lt 6, 3) := by decide +kernel
theorem dK2_add_9 : decode cK2_add 9 = .ok (.bipush (-3), 2) := by decide +kernel
theorem dK2_add_11 : decode cK2_add 11 = .ok (.ireturn, 1) := by decide +kernel
theorem dK2_add_12 : decode cK2_add 12 = .ok (.aload_n 0, 1) := by decide +kernel
theorem dK2_add_13 : decode cK2_add 13 = .ok (.getfield 9, 3) := by decide +kernel
theorem dK2_add_16 : decode cK2_add 16 = .ok (.aload_n 0, 1) := by decide +kernel
theorem dK2_add_17 : decode cK2_add 17 = .ok (.getfield 24, 3) := by decide +kernel
theorem dK2_add_20 : decode cK2_add 20 = .ok (.iload_n 1, 1) := by decide +kernel
theorem dK2_add_21 : decode cK2_add 21 = .ok (.iastore, 1) := by decide +kernel
theorem dK2_add_22 : decode cK2_add 22 = .ok (.aload_n 0, 1) := by decide +kernel
theorem dK2_add_23 : decode cK2_add 23 = .ok (.getfield 15, 3) := by decide +kernel
theorem dK2_add_26 : decode cK2_add 26 = .ok (.aload_n 0, 1) := by decide +kernel
theorem dK2_add_27 : decode cK2_add 27 = .ok (.getfield 24, 3) := by decide +kernel
theorem dK2_add_30 : decode cK2_add 30 = .ok (.iload_n 2, 1) := by decide +kernel
theorem dK2_add_31 : decode cK2_add 31 = .ok (.iastore, 1) := by decide +kernel
theorem dK2_add_32 : decode cK2_add 32 = .ok (.aload_n 0, 1) := by decide +kernel
theorem dK2_add_33 : decode cK2_add 33 = .ok (.getfield 18, 3) := by decide +kernel
theorem dK2_add_36 : decode cK2_add 36 = .ok (.aload_n 0, 1) := by decide +kernel
theorem dK2_add_37 : decode cK2_add 37 = .ok (.getfield 24, 3) := by decide +kernel
theorem dK2_add_40 : decode cK2_add 40 = .ok (.iload_n 3, 1) := by decide +kernel
theorem dK2_add_41 : decode cK2_add 41 = .ok (.iastore, 1) := by decide +kernel
theorem dK2_add_42 : decode cK2_add 42 = .ok (.aload_n 0, 1) := by decide +kernel
theorem dK2_add_43 : decode cK2_add 43 = .ok (.getfield 21, 3) := by decide +kernel
theorem dK2_add_46 : decode cK2_add 46 = .ok (.aload_n 0, 1) := by decide +kernel
theorem dK2_add_47 : decode cK2_add 47 = .ok (.getfield 24, 3) := by decide +kernel
theorem dK2_add_50 : decode cK2_add 50 = .ok (.iload 4, 2) := by decide +kernel
theorem dK2_add_52 : decode cK2_add 52 = .ok (.iastore, 1) := by decide +kernel
theorem dK2_add_53 : decode cK2_add 53 = .ok (.aload_n 0, 1) := by decide +kernel
theorem dK2_add_54 : decode cK2_add 54 = .ok (.dup, 1) := by decide +kernel
theorem dK2_add_55 : decode cK2_add 55 = .ok (.getfield 24, 3) := by decide +kernel
theorem dK2_add_58 : decode cK2_add 58 = .ok (.iconst 1, 1) := by decide +kernel
theorem dK2_add_59 : decode cK2_add 59 = .ok (.iadd, 1) := by decide +kernel
theorem dK2_add_60 : decode cK2_add 60 = .ok (.putfield 24, 3) := by decide +kernel
theorem dK2_add_63 : decode cK2_add 63 = .ok (.aload_n 0, 1) := by decide +kernel
theorem dK2_add_64 : decode cK2_add 64 = .ok (.getfield 24, 3) := by decide +kernel
theorem dK2_add_67 : decode cK2_add 67 = .ok (.iconst 1, 1) := by decide +kernel
theorem dK2_add_68 : decode cK2_add 68 = .ok (.isub, 1) := by decide +kernel
theorem dK2_add_69 : decode cK2_add 69 = .ok (.ireturn, 1) := by decide +kernel
theorem dK0_results_0 : decode cK0_results 0 = .ok (.iconst 0, 1) := by decide +kernel
theorem dK0_results_1 : decode cK0_results 1 = .ok (.istore_n 1, 1) := by decide +kernel
theorem dK0_results_2 : decode cK0_results 2 = .ok (.iconst 0, 1) := by decide +kernel
theorem dK0_results_3 : decode cK0_results 3 = .ok (.istore_n 2, 1) := by decide +kernel
theorem dK0_results_4 : decode cK0_results 4 = .ok (.iload_n 2, 1) := by decide +kernel
theorem dK0_results_5 : decode cK0_results 5 = .ok (.aload_n 0, 1) := by decide +kernel
theorem dK0_results_6 : decode cK0_results 6 = .ok (.getfield 22, 3) := by decide +kernel
theorem dK0_results_9 : decode cK0_results 9 = .ok (.getfield 80, 3) := by decide +kernel
theorem dK0_results_12 : decode cK0_results 12 = .ok (.if_icmp .ge 27, 3) := by decide +kernel
theorem dK0_results_15 : decode cK0_results 15 = .ok (.iload_n 1, 1) := by decide +kernel
theorem dK0_results_16 : decode cK0_results 16 = .ok (.aload_n 0, 1) := by decide +kernel
theorem dK0_results_17 : decode cK0_results 17 = .ok (.getfield 22, 3) := by decide +kernel
theorem dK0_results_20 : decode cK0_results 20 = .ok (.aload_n 0, 1) := by decide +kernel
theorem dK0_results_21 : decode cK0_results 21 = .ok (.getfield 12, 3) := by decide +kernel
theorem dK0_results_24 : decode cK0_results 24 = .ok (.iload_n 2, 1) := by decide +kernel
theorem dK0_results_25 : decode cK0_results 25 = .ok (.invokevirtual 83, 3) := by decide +kernel
theorem dK0_results_28 : decode cK0_results 28 = .ok (.invokestatic 87, 3) := by decide +kernel
theorem dK0_results_31 : decode cK0_results 31 = .ok (.iadd, 1) := by decide +kernel
theorem dK0_results_32 : decode cK0_results 32 = .ok (.istore_n 1, 1) := by decide +kernel
theorem dK0_results_33 : decode cK0_results 33 = .ok (.iinc 2 1, 3) := by decide +kernel
theorem dK0_results_36 : decode cK0_results 36 = .ok (.goto (-32), 3) := by decide +kernel
theorem dK0_results_39 : decode cK0_results 39 = .ok (.iload_n 1, 1) := by decide +kernel
theorem dK0_results_40 : decode cK0_results 40 = .ok (.ireturn, 1) := by decide +kernel
theorem dK2_failing_0 : decode cK2_failing 0 = .ok (.aload_n 1, 1) := by decide +kernel
theorem dK2_failing_1 : decode cK2_failing 1 = .ok (.aload_n 0, 1) := by decide +kernel
theorem dK2_failing_2 : decode cK2_failing 2 = .ok (.getfield 15, 3) := by decide +kernel
theorem dK2_failing_5 : decode cK2_failing 5 = .ok (.iload_n 2, 1) := by decide +kernel
theorem dK2_failing_6 : decode cK2_failing 6 = .ok (.iaload, 1) := by decide +kernel
theorem dK2_failing_7 : decode cK2_failing 7 = .ok (.invokevirtual 38, 3) := by decide +kernel
theorem dK2_failing_10 : decode cK2_failing 10 = .ok (.istore_n 3, 1) := by decide +kernel
theorem dK2_failing_11 : decode cK2_failing 11 = .ok (.iconst 0, 1) := by decide +kernel
theorem dK2_failing_12 : decode cK2_failing 12 = .ok (.istore 4, 2) := by decide +kernel
theorem dK2_failing_14 : decode cK2_failing 14 = .ok (.iconst 0, 1) := by decide +kernel
theorem dK2_failing_15 : decode cK2_failing 15 = .ok (.istore 5, 2) := by decide +kernel
theorem dK2_failing_17 : decode cK2_failing 17 = .ok (.iload 5, 2) := by decide +kernel
theorem dK2_failing_19 : decode cK2_failing 19 = .ok (.bipush 12, 2) := by decide +kernel
theorem dK2_failing_21 : decode cK2_failing 21 = .ok (.if_icmp .ge 42, 3) := by decide +kernel
theorem dK2_failing_24 : decode cK2_failing 24 = .ok (.iload_n 3, 1) := by decide +kernel
theorem dK2_failing_25 : decode cK2_failing 25 = .ok (.ifCond .eq 38, 3) := by decide +kernel
theorem dK2_failing_28 : decode cK2_failing 28 = .ok (.iload_n 3, 1) := by decide +kernel
theorem dK2_failing_29 : decode cK2_failing 29 = .ok (.iload 5, 2) := by decide +kernel
theorem dK2_failing_31 : decode cK2_failing 31 = .ok (.invokestatic 42, 3) := by decide +kernel
theorem dK2_failing_34 : decode cK2_failing 34 = .ok (.ifCond .eq 23, 3) := by decide +kernel
theorem dK2_failing_37 : decode cK2_failing 37 = .ok (.aload_n 0, 1) := by decide +kernel
theorem dK2_failing_38 : decode cK2_failing 38 = .ok (.aload_n 1, 1) := by decide +kernel
theorem dK2_failing_39 : decode cK2_failing 39 = .ok (.iload_n 2, 1) := by decide +kernel
theorem dK2_failing_40 : decode cK2_failing 40 = .ok (.iload 5, 2) := by decide +kernel
theorem dK2_failing_42 : decode cK2_failing 42 = .ok (.invokevirtual 34, 3) := by decide +kernel
theorem dK2_failing_45 : decode cK2_failing 45 = .ok (.ifCond .ne 12, 3) := by decide +kernel
theorem dK2_failing_48 : decode cK2_failing 48 = .ok (.iload 4, 2) := by decide +kernel
theorem dK2_failing_50 : decode cK2_failing 50 = .ok (.iconst 1, 1) := by decide +kernel
theorem dK2_failing_51 : decode cK2_failing 51 = .ok (.iload 5, 2) := by decide +kernel
theorem dK2_failing_53 : decode cK2_failing 53 = .ok (.ishl, 1) := by decide +kernel
theorem dK2_failing_54 : decode cK2_failing 54 = .ok (.ior, 1) := by decide +kernel
theorem dK2_failing_55 : decode cK2_failing 55 = .ok (.istore 4, 2) := by decide +kernel
theorem dK2_failing_57 : decode cK2_failing 57 = .ok (.iinc 5 1, 3) := by decide +kernel
theorem dK2_failing_60 : decode cK2_failing 60 = .ok (.goto (-43), 3) := by decide +kernel
theorem dK2_failing_63 : decode cK2_failing 63 = .ok (.iload 4, 2) := by decide +kernel
theorem dK2_failing_65 : decode cK2_failing 65 = .ok (.ireturn, 1) := by decide +kernel
theorem dK1_membersOf_0 : decode cK1_membersOf 0 = .ok (.aload_n 0, 1) := by decide +kernel
theorem dK1_membersOf_1 : decode cK1_membersOf 1 = .ok (.getfield 15, 3) := by decide +kernel
theorem dK1_membersOf_4 : decode cK1_membersOf 4 = .ok (.iload_n 1, 1) := by decide +kernel
theorem dK1_membersOf_5 : decode cK1_membersOf 5 = .ok (.iaload, 1) := by decide +kernel
theorem dK1_membersOf_6 : decode cK1_membersOf 6 = .ok (.ireturn, 1) := by decide +kernel
theorem dK2_holds_0 : decode cK2_holds 0 = .ok (.aload_n 1, 1) := by decide +kernel
theorem dK2_holds_1 : decode cK2_holds 1 = .ok (.iload_n 3, 1) := by decide +kernel
theorem dK2_holds_2 : decode cK2_holds 2 = .ok (.aload_n 0, 1) := by decide +kernel
theorem dK2_holds_3 : decode cK2_holds 3 = .ok (.getfield 18, 3) := by decide +kernel
theorem dK2_holds_6 : decode cK2_holds 6 = .ok (.iload_n 2, 1) := by decide +kernel
theorem dK2_holds_7 : decode cK2_holds 7 = .ok (.iaload, 1) := by decide +kernel
theorem dK2_holds_8 : decode cK2_holds 8 = .ok (.invokevirtual 45, 3) := by decide +kernel
theorem dK2_holds_11 : decode cK2_holds 11 = .ok (.istore 4, 2) := by decide +kernel
theorem dK2_holds_13 : decode cK2_holds 13 = .ok (.aload_n 0, 1) := by decide +kernel
theorem dK2_holds_14 : decode cK2_holds 14 = .ok (.getfield 21, 3) := by decide +kernel
theorem dK2_holds_17 : decode cK2_holds 17 = .ok (.iload_n 2, 1) := by decide +kernel
theorem dK2_holds_18 : decode cK2_holds 18 = .ok (.iaload, 1) := by decide +kernel
theorem dK2_holds_19 : decode cK2_holds 19 = .ok (.istore 5, 2) := by decide +kernel
theorem dK2_holds_21 : decode cK2_holds 21 = .ok (.aload_n 0, 1) := by decide +kernel
theorem dK2_holds_22 : decode cK2_holds 22 = .ok (.getfield 9, 3) := by decide +kernel
theorem dK2_holds_25 : decode cK2_holds 25 = .ok (.iload_n 2, 1) := by decide +kernel
theorem dK2_holds_26 : decode cK2_holds 26 = .ok (.iaload, 1) := by decide +kernel
theorem dK2_holds_27 : decode cK2_holds 27 = .ok (.tableswitch 119 0 4 #[33, 49, 65, 85, 101], 33) := by decide +kernel
theorem dK2_holds_60 : decode cK2_holds 60 = .ok (.iload 4, 2) := by decide +kernel
theorem dK2_holds_62 : decode cK2_holds 62 = .ok (.invokestatic 49, 3) := by decide +kernel
theorem dK2_holds_65 : decode cK2_holds 65 = .ok (.iload 5, 2) := by decide +kernel
theorem dK2_holds_67 : decode cK2_holds 67 = .ok (.if_icmp .lt 7, 3) := by decide +kernel
theorem dK2_holds_70 : decode cK2_holds 70 = .ok (.iconst 1, 1) := by decide +kernel
theorem dK2_holds_71 : decode cK2_holds 71 = .ok (.goto 4, 3) := by decide +kernel
theorem dK2_holds_74 : decode cK2_holds 74 = .ok (.iconst 0, 1) := by decide +kernel
theorem dK2_holds_75 : decode cK2_holds 75 = .ok (.ireturn, 1) := by decide +kernel
theorem dK2_holds_76 : decode cK2_holds 76 = .ok (.iload 4, 2) := by decide +kernel
theorem dK2_holds_78 : decode cK2_holds 78 = .ok (.invokestatic 49, 3) := by decide +kernel
theorem dK2_holds_81 : decode cK2_holds 81 = .ok (.iload 5, 2) := by decide +kernel
theorem dK2_holds_83 : decode cK2_holds 83 = .ok (.if_icmp .gt 7, 3) := by decide +kernel
theorem dK2_holds_86 : decode cK2_holds 86 = .ok (.iconst 1, 1) := by decide +kernel
theorem dK2_holds_87 : decode cK2_holds 87 = .ok (.goto 4, 3) := by decide +kernel
theorem dK2_holds_90 : decode cK2_holds 90 = .ok (.iconst 0, 1) := by decide +kernel
theorem dK2_holds_91 : decode cK2_holds 91 = .ok (.ireturn, 1) := by decide +kernel
theorem dK2_holds_92 : decode cK2_holds 92 = .ok (.iload 4, 2) := by decide +kernel
theorem dK2_holds_94 : decode cK2_holds 94 = .ok (.aload_n 1, 1) := by decide +kernel
theorem dK2_holds_95 : decode cK2_holds 95 = .ok (.iload 5, 2) := by decide +kernel
theorem dK2_holds_97 : decode cK2_holds 97 = .ok (.invokevirtual 38, 3) := by decide +kernel
theorem dK2_holds_100 : decode cK2_holds 100 = .ok (.iconst (-1), 1) := by decide +kernel
theorem dK2_holds_101 : decode cK2_holds 101 = .ok (.ixor, 1) := by decide +kernel
theorem dK2_holds_102 : decode cK2_holds 102 = .ok (.iand, 1) := by decide +kernel
theorem dK2_holds_103 : decode cK2_holds 103 = .ok (.ifCond .ne 7, 3) := by decide +kernel
theorem dK2_holds_106 : decode cK2_holds 106 = .ok (.iconst 1, 1) := by decide +kernel
theorem dK2_holds_107 : decode cK2_holds 107 = .ok (.goto 4, 3) := by decide +kernel
theorem dK2_holds_110 : decode cK2_holds 110 = .ok (.iconst 0, 1) := by decide +kernel
theorem dK2_holds_111 : decode cK2_holds 111 = .ok (.ireturn, 1) := by decide +kernel
theorem dK2_holds_112 : decode cK2_holds 112 = .ok (.iload 4, 2) := by decide +kernel
theorem dK2_holds_114 : decode cK2_holds 114 = .ok (.iload 5, 2) := by decide +kernel
theorem dK2_holds_116 : decode cK2_holds 116 = .ok (.invokestatic 42, 3) := by decide +kernel
theorem dK2_holds_119 : decode cK2_holds 119 = .ok (.ifCond .ne 7, 3) := by decide +kernel
theorem dK2_holds_122 : decode cK2_holds 122 = .ok (.iconst 1, 1) := by decide +kernel
theorem dK2_holds_123 : decode cK2_holds 123 = .ok (.goto 4, 3) := by decide +kernel
theorem dK2_holds_126 : decode cK2_holds 126 = .ok (.iconst 0, 1) := by decide +kernel
theorem dK2_holds_127 : decode cK2_holds 127 = .ok (.ireturn, 1) := by decide +kernel
theorem dK2_holds_128 : decode cK2_holds 128 = .ok (.iload 4, 2) := by decide +kernel
theorem dK2_holds_130 : decode cK2_holds 130 = .ok (.aload_n 1, 1) := by decide +kernel
theorem dK2_holds_131 : decode cK2_holds 131 = .ok (.iload_n 3, 1) := by decide +kernel
theorem dK2_holds_132 : decode cK2_holds 132 = .ok (.iload 5, 2) := by decide +kernel
theorem dK2_holds_134 : decode cK2_holds 134 = .ok (.invokevirtual 45, 3) := by decide +kernel
theorem dK2_holds_137 : decode cK2_holds 137 = .ok (.if_icmp .ne 7, 3) := by decide +kernel
theorem dK2_holds_140 : decode cK2_holds 140 = .ok (.iconst 1, 1) := by decide +kernel
theorem dK2_holds_141 : decode cK2_holds 141 = .ok (.goto 4, 3) := by decide +kernel
theorem dK2_holds_144 : decode cK2_holds 144 = .ok (.iconst 0, 1) := by decide +kernel
theorem dK2_holds_145 : decode cK2_holds 145 = .ok (.ireturn, 1) := by decide +kernel
theorem dK2_holds_146 : decode cK2_holds 146 = .ok (.iload 4, 2) := by decide +kernel
theorem dK2_holds_148 : decode cK2_holds 148 = .ok (.aload_n 1, 1) := by decide +kernel
theorem dK2_holds_149 : decode cK2_holds 149 = .ok (.iload_n 3, 1) := by decide +kernel
theorem dK2_holds_150 : decode cK2_holds 150 = .ok (.iload 5, 2) := by decide +kernel
theorem dK2_holds_152 : decode cK2_holds 152 = .ok (.invokevirtual 45, 3) := by decide +kernel
theorem dK2_holds_155 : decode cK2_holds 155 = .ok (.iand, 1) := by decide +kernel
theorem dK2_holds_156 : decode cK2_holds 156 = .ok (.ifCond .ne 7, 3) := by decide +kernel
theorem dK2_holds_159 : decode cK2_holds 159 = .ok (.iconst 1, 1) := by decide +kernel
theorem dK2_holds_160 : decode cK2_holds 160 = .ok (.goto 4, 3) := by decide +kernel
theorem dK2_holds_163 : decode cK2_holds 163 = .ok (.iconst 0, 1) := by decide +kernel
theorem dK2_holds_164 : decode cK2_holds 164 = .ok (.ireturn, 1) := by decide +kernel
theorem dJ2_bitCount_0 : decode cJ2_bitCount 0 = .ok (.iload_n 0, 1) := by decide +kernel
theorem dJ2_bitCount_1 : decode cJ2_bitCount 1 = .ok (.iload_n 0, 1) := by decide +kernel
theorem dJ2_bitCount_2 : decode cJ2_bitCount 2 = .ok (.iconst 1, 1) := by decide +kernel
theorem dJ2_bitCount_3 : decode cJ2_bitCount 3 = .ok (.iushr, 1) := by decide +kernel
theorem dJ2_bitCount_4 : decode cJ2_bitCount 4 = .ok (.ldc_w 265, 3) := by decide +kernel
theorem dJ2_bitCount_7 : decode cJ2_bitCount 7 = .ok (.iand, 1) := by decide +kernel
theorem dJ2_bitCount_8 : decode cJ2_bitCount 8 = .ok (.isub, 1) := by decide +kernel
theorem dJ2_bitCount_9 : decode cJ2_bitCount 9 = .ok (.istore_n 0, 1) := by decide +kernel
theorem dJ2_bitCount_10 : decode cJ2_bitCount 10 = .ok (.iload_n 0, 1) := by decide +kernel
theorem dJ2_bitCount_11 : decode cJ2_bitCount 11 = .ok (.ldc_w 266, 3) := by decide +kernel
theorem dJ2_bitCount_14 : decode cJ2_bitCount 14 = .ok (.iand, 1) := by decide +kernel
theorem dJ2_bitCount_15 : decode cJ2_bitCount 15 = .ok (.iload_n 0, 1) := by decide +kernel
theorem dJ2_bitCount_16 : decode cJ2_bitCount 16 = .ok (.iconst 2, 1) := by decide +kernel
theorem dJ2_bitCount_17 : decode cJ2_bitCount 17 = .ok (.iushr, 1) := by decide +kernel
theorem dJ2_bitCount_18 : decode cJ2_bitCount 18 = .ok (.ldc_w 266, 3) := by decide +kernel
theorem dJ2_bitCount_21 : decode cJ2_bitCount 21 = .ok (.iand, 1) := by decide +kernel
theorem dJ2_bitCount_22 : decode cJ2_bitCount 22 = .ok (.iadd, 1) := by decide +kernel
theorem dJ2_bitCount_23 : decode cJ2_bitCount 23 = .ok (.istore_n 0, 1) := by decide +kernel
theorem dJ2_bitCount_24 : decode cJ2_bitCount 24 = .ok (.iload_n 0, 1) := by decide +kernel
theorem dJ2_bitCount_25 : decode cJ2_bitCount 25 = .ok (.iload_n 0, 1) := by decide +kernel
theorem dJ2_bitCount_26 : decode cJ2_bitCount 26 = .ok (.iconst 4, 1) := by decide +kernel
theorem dJ2_bitCount_27 : decode cJ2_bitCount 27 = .ok (.iushr, 1) := by decide +kernel
theorem dJ2_bitCount_28 : decode cJ2_bitCount 28 = .ok (.iadd, 1) := by decide +kernel
theorem dJ2_bitCount_29 : decode cJ2_bitCount 29 = .ok (.ldc_w 267, 3) := by decide +kernel
theorem dJ2_bitCount_32 : decode cJ2_bitCount 32 = .ok (.iand, 1) := by decide +kernel
theorem dJ2_bitCount_33 : decode cJ2_bitCount 33 = .ok (.istore_n 0, 1) := by decide +kernel
theorem dJ2_bitCount_34 : decode cJ2_bitCount 34 = .ok (.iload_n 0, 1) := by decide +kernel
theorem dJ2_bitCount_35 : decode cJ2_bitCount 35 = .ok (.iload_n 0, 1) := by decide +kernel
theorem dJ2_bitCount_36 : decode cJ2_bitCount 36 = .ok (.bipush 8, 2) := by decide +kernel
theorem dJ2_bitCount_38 : decode cJ2_bitCount 38 = .ok (.iushr, 1) := by decide +kernel
theorem dJ2_bitCount_39 : decode cJ2_bitCount 39 = .ok (.iadd, 1) := by decide +kernel
theorem dJ2_bitCount_40 : decode cJ2_bitCount 40 = .ok (.istore_n 0, 1) := by decide +kernel
theorem dJ2_bitCount_41 : decode cJ2_bitCount 41 = .ok (.iload_n 0, 1) := by decide +kernel
theorem dJ2_bitCount_42 : decode cJ2_bitCount 42 = .ok (.iload_n 0, 1) := by decide +kernel
theorem dJ2_bitCount_43 : decode cJ2_bitCount 43 = .ok (.bipush 16, 2) := by decide +kernel
theorem dJ2_bitCount_45 : decode cJ2_bitCount 45 = .ok (.iushr, 1) := by decide +kernel
theorem dJ2_bitCount_46 : decode cJ2_bitCount 46 = .ok (.iadd, 1) := by decide +kernel
theorem dJ2_bitCount_47 : decode cJ2_bitCount 47 = .ok (.istore_n 0, 1) := by decide +kernel
theorem dJ2_bitCount_48 : decode cJ2_bitCount 48 = .ok (.iload_n 0, 1) := by decide +kernel
theorem dJ2_bitCount_49 : decode cJ2_bitCount 49 = .ok (.bipush 63, 2) := by decide +kernel
theorem dJ2_bitCount_51 : decode cJ2_bitCount 51 = .ok (.iand, 1) := by decide +kernel
theorem dJ2_bitCount_52 : decode cJ2_bitCount 52 = .ok (.ireturn, 1) := by decide +kernel
theorem dK0_result_0 : decode cK0_result 0 = .ok (.aload_n 0, 1) := by decide +kernel
theorem dK0_result_1 : decode cK0_result 1 = .ok (.iload_n 1, 1) := by decide +kernel
theorem dK0_result_2 : decode cK0_result 2 = .ok (.iconst 0, 1) := by decide +kernel
theorem dK0_result_3 : decode cK0_result 3 = .ok (.invokevirtual 93, 3) := by decide +kernel
theorem dK0_result_6 : decode cK0_result 6 = .ok (.ireturn, 1) := by decide +kernel
theorem dK0_nthResult_0 : decode cK0_nthResult 0 = .ok (.iload_n 1, 1) := by decide +kernel
theorem dK0_nthResult_1 : decode cK0_nthResult 1 = .ok (.ifCond .ge 6, 3) := by decide +kernel
theorem dK0_nthResult_4 : decode cK0_nthResult 4 = .ok (.bipush (-2), 2) := by decide +kernel
theorem dK0_nthResult_6 : decode cK0_nthResult 6 = .ok (.ireturn, 1) := by decide +kernel
theorem dK0_nthResult_7 : decode cK0_nthResult 7 = .ok (.iload_n 1, 1) := by decide +kernel
theorem dK0_nthResult_8 : decode cK0_nthResult 8 = .ok (.istore_n 3, 1) := by decide +kernel
theorem dK0_nthResult_9 : decode cK0_nthResult 9 = .ok (.iconst 0, 1) := by decide +kernel
theorem dK0_nthResult_10 : decode cK0_nthResult 10 = .ok (.istore 4, 2) := by decide +kernel
theorem dK0_nthResult_12 : decode cK0_nthResult 12 = .ok (.iload 4, 2) := by decide +kernel
theorem dK0_nthResult_14 : decode cK0_nthResult 14 = .ok (.aload_n 0, 1) := by decide +kernel
theorem dK0_nthResult_15 : decode cK0_nthResult 15 = .ok (.getfield 22, 3) := by decide +kernel
theorem dK0_nthResult_18 : decode cK0_nthResult 18 = .ok (.getfield 80, 3) := by decide +kernel
theorem dK0_nthResult_21 : decode cK0_nthResult 21 = .ok (.if_icmp .ge 79, 3) := by decide +kernel
theorem dK0_nthResult_24 : decode cK0_nthResult 24 = .ok (.aload_n 0, 1) := by decide +kernel
theorem dK0_nthResult_25 : decode cK0_nthResult 25 = .ok (.getfield 22, 3) := by decide +kernel
theorem dK0_nthResult_28 : decode cK0_nthResult 28 = .ok (.aload_n 0, 1) := by decide +kernel
theorem dK0_nthResult_29 : decode cK0_nthResult 29 = .ok (.getfield 12, 3) := by decide +kernel
theorem dK0_nthResult_32 : decode cK0_nthResult 32 = .ok (.iload 4, 2) := by decide +kernel
theorem dK0_nthResult_34 : decode cK0_nthResult 34 = .ok (.invokevirtual 83, 3) := by decide +kernel
theorem dK0_nthResult_37 : decode cK0_nthResult 37 = .ok (.istore 5, 2) := by decide +kernel
theorem dK0_nthResult_39 : decode cK0_nthResult 39 = .ok (.iload_n 2, 1) := by decide +kernel
theorem dK0_nthResult_40 : decode cK0_nthResult 40 = .ok (.ifCond .eq 23, 3) := by decide +kernel
theorem dK0_nthResult_43 : decode cK0_nthResult 43 = .ok (.aload_n 0, 1) := by decide +kernel
theorem dK0_nthResult_44 : decode cK0_nthResult 44 = .ok (.getfield 22, 3) := by decide +kernel
theorem dK0_nthResult_47 : decode cK0_nthResult 47 = .ok (.aload_n 0, 1) := by decide +kernel
theorem dK0_nthResult_48 : decode cK0_nthResult 48 = .ok (.getfield 16, 3) := by decide +kernel
theorem dK0_nthResult_51 : decode cK0_nthResult 51 = .ok (.iload 4, 2) := by decide +kernel
theorem dK0_nthResult_53 : decode cK0_nthResult 53 = .ok (.invokevirtual 83, 3) := by decide +kernel
theorem dK0_nthResult_56 : decode cK0_nthResult 56 = .ok (.iload 5, 2) := by decide +kernel
theorem dK0_nthResult_58 : decode cK0_nthResult 58 = .ok (.iconst (-1), 1) := by decide +kernel
theorem dK0_nthResult_59 : decode cK0_nthResult 59 = .ok (.ixor, 1) := by decide +kernel
theorem dK0_nthResult_60 : decode cK0_nthResult 60 = .ok (.iand, 1) := by decide +kernel
theorem dK0_nthResult_61 : decode cK0_nthResult 61 = .ok (.istore 5, 2) := by decide +kernel
theorem dK0_nthResult_63 : decode cK0_nthResult 63 = .ok (.iload 5, 2) := by decide +kernel
theorem dK0_nthResult_65 : decode cK0_nthResult 65 = .ok (.invokestatic 87, 3) := by decide +kernel
theorem dK0_nthResult_68 : decode cK0_nthResult 68 = .ok (.istore 6, 2) := by decide +kernel
theorem dK0_nthResult_70 : decode cK0_nthResult 70 = .ok (.iload_n 3, 1) := by decide +kernel
theorem dK0_nthResult_71 : decode cK0_nthResult 71 = .ok (.iload 6, 2) := by decide +kernel
