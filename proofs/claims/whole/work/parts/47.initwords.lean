theorem wdt1_119 : Cond.methodLink "java/lang/AbstractStringBuilder" 3 ⟨"java/lang/Object", "<init>", "()V"⟩ ∈ ALLW := wt1 (List.mem_of_getElem? (i := 119) (by decide +kernel)) rfl
theorem wdt1_116 : Cond.methodLink "java/lang/StringBuilder" 1 yJ1_init ∈ ALLW := wt1 (List.mem_of_getElem? (i := 116) (by decide +kernel)) rfl
theorem wdt1_117 : Cond.instanceMethod yJ1_init ∈ ALLW := wt1 (List.mem_of_getElem? (i := 117) (by decide +kernel)) rfl
theorem wdt1_23 : Cond.methodLink "ReportCauses" 3 ⟨"java/lang/Object", "<init>", "()V"⟩ ∈ ALLW := wt1 (List.mem_of_getElem? (i := 23) (by decide +kernel)) rfl
theorem wdt1_26 : Cond.classLink "ReportCauses" 9 "ReportCauses$Triples" ∈ ALLW := wt1 (List.mem_of_getElem? (i := 26) (by decide +kernel)) rfl
theorem wdt1_27 : Cond.instantiable "ReportCauses$Triples" 4 ∈ ALLW := wt1 (List.mem_of_getElem? (i := 27) (by decide +kernel)) rfl
theorem wdt1_28 : Cond.methodLink "ReportCauses" 11 yK1_init ∈ ALLW := wt1 (List.mem_of_getElem? (i := 28) (by decide +kernel)) rfl
theorem wdt1_29 : Cond.instanceMethod yK1_init ∈ ALLW := wt1 (List.mem_of_getElem? (i := 29) (by decide +kernel)) rfl
theorem wdt1_46 : Cond.classLink "ReportCauses" 19 "ReportCauses$Rules" ∈ ALLW := wt1 (List.mem_of_getElem? (i := 46) (by decide +kernel)) rfl
theorem wdt1_47 : Cond.instantiable "ReportCauses$Rules" 5 ∈ ALLW := wt1 (List.mem_of_getElem? (i := 47) (by decide +kernel)) rfl
theorem wdt1_48 : Cond.methodLink "ReportCauses" 21 yK2_init ∈ ALLW := wt1 (List.mem_of_getElem? (i := 48) (by decide +kernel)) rfl
theorem wdt1_49 : Cond.instanceMethod yK2_init ∈ ALLW := wt1 (List.mem_of_getElem? (i := 49) (by decide +kernel)) rfl
theorem wdt1_73 : Cond.classLink "ReportCauses" 26 "ReportCauses$Changes" ∈ ALLW := wt1 (List.mem_of_getElem? (i := 73) (by decide +kernel)) rfl
theorem wdt1_74 : Cond.instantiable "ReportCauses$Changes" 4 ∈ ALLW := wt1 (List.mem_of_getElem? (i := 74) (by decide +kernel)) rfl
theorem wdt1_75 : Cond.methodLink "ReportCauses" 28 yK3_init ∈ ALLW := wt1 (List.mem_of_getElem? (i := 75) (by decide +kernel)) rfl
theorem wdt1_76 : Cond.instanceMethod yK3_init ∈ ALLW := wt1 (List.mem_of_getElem? (i := 76) (by decide +kernel)) rfl
theorem wdt1_94 : Cond.classLink "ReportCauses" 33 "ReportCauses$Findings" ∈ ALLW := wt1 (List.mem_of_getElem? (i := 94) (by decide +kernel)) rfl
theorem wdt1_95 : Cond.instantiable "ReportCauses$Findings" 3 ∈ ALLW := wt1 (List.mem_of_getElem? (i := 95) (by decide +kernel)) rfl
theorem wdt1_96 : Cond.methodLink "ReportCauses" 35 yK4_init ∈ ALLW := wt1 (List.mem_of_getElem? (i := 96) (by decide +kernel)) rfl
theorem wdt1_97 : Cond.instanceMethod yK4_init ∈ ALLW := wt1 (List.mem_of_getElem? (i := 97) (by decide +kernel)) rfl
theorem wdt1_111 : Cond.classLink "ReportCauses" 40 "java/lang/StringBuilder" ∈ ALLW := wt1 (List.mem_of_getElem? (i := 111) (by decide +kernel)) rfl
theorem wdt1_112 : Cond.instantiable "java/lang/StringBuilder" 4 ∈ ALLW := wt1 (List.mem_of_getElem? (i := 112) (by decide +kernel)) rfl
theorem wdt1_113 : Cond.methodLink "ReportCauses" 42 yK6_init ∈ ALLW := wt1 (List.mem_of_getElem? (i := 113) (by decide +kernel)) rfl
theorem wdt1_114 : Cond.instanceMethod yK6_init ∈ ALLW := wt1 (List.mem_of_getElem? (i := 114) (by decide +kernel)) rfl
theorem wdt1_118 : Cond.code yJ1_init cJ1_init 2 none ∈ ALLW := wt1 (List.mem_of_getElem? (i := 118) rfl) rfl
theorem wdt1_115 : Cond.code yK6_init cK6_init 1 none ∈ ALLW := wt1 (List.mem_of_getElem? (i := 115) rfl) rfl
theorem wdt1_22 : Cond.code yK0_init cK0_init 1 none ∈ ALLW := wt1 (List.mem_of_getElem? (i := 22) rfl) rfl
theorem dK0_init_0 : decode cK0_init 0 = .ok (.aload_n 0, 1) := by decide +kernel
theorem dK0_init_1 : decode cK0_init 1 = .ok (.invokespecial 3, 3) := by decide +kernel
theorem dK0_init_4 : decode cK0_init 4 = .ok (.aload_n 0, 1) := by decide +kernel
theorem dK0_init_5 : decode cK0_init 5 = .ok (.new 9, 3) := by decide +kernel
theorem dK0_init_8 : decode cK0_init 8 = .ok (.dup, 1) := by decide +kernel
theorem dK0_init_9 : decode cK0_init 9 = .ok (.invokespecial 11, 3) := by decide +kernel
theorem dK0_init_12 : decode cK0_init 12 = .ok (.putfield 12, 3) := by decide +kernel
theorem dK0_init_15 : decode cK0_init 15 = .ok (.aload_n 0, 1) := by decide +kernel
theorem dK0_init_16 : decode cK0_init 16 = .ok (.new 9, 3) := by decide +kernel
theorem dK0_init_19 : decode cK0_init 19 = .ok (.dup, 1) := by decide +kernel
theorem dK0_init_20 : decode cK0_init 20 = .ok (.invokespecial 11, 3) := by decide +kernel
theorem dK0_init_23 : decode cK0_init 23 = .ok (.putfield 16, 3) := by decide +kernel
theorem dK0_init_26 : decode cK0_init 26 = .ok (.aload_n 0, 1) := by decide +kernel
theorem dK0_init_27 : decode cK0_init 27 = .ok (.new 19, 3) := by decide +kernel
theorem dK0_init_30 : decode cK0_init 30 = .ok (.dup, 1) := by decide +kernel
theorem dK0_init_31 : decode cK0_init 31 = .ok (.invokespecial 21, 3) := by decide +kernel
theorem dK0_init_34 : decode cK0_init 34 = .ok (.putfield 22, 3) := by decide +kernel
theorem dK0_init_37 : decode cK0_init 37 = .ok (.aload_n 0, 1) := by decide +kernel
theorem dK0_init_38 : decode cK0_init 38 = .ok (.new 26, 3) := by decide +kernel
theorem dK0_init_41 : decode cK0_init 41 = .ok (.dup, 1) := by decide +kernel
theorem dK0_init_42 : decode cK0_init 42 = .ok (.invokespecial 28, 3) := by decide +kernel
theorem dK0_init_45 : decode cK0_init 45 = .ok (.putfield 29, 3) := by decide +kernel
theorem dK0_init_48 : decode cK0_init 48 = .ok (.aload_n 0, 1) := by decide +kernel
theorem dK0_init_49 : decode cK0_init 49 = .ok (.new 33, 3) := by decide +kernel
theorem dK0_init_52 : decode cK0_init 52 = .ok (.dup, 1) := by decide +kernel
theorem dK0_init_53 : decode cK0_init 53 = .ok (.invokespecial 35, 3) := by decide +kernel
theorem dK0_init_56 : decode cK0_init 56 = .ok (.putfield 36, 3) := by decide +kernel
theorem dK0_init_59 : decode cK0_init 59 = .ok (.aload_n 0, 1) := by decide +kernel
theorem dK0_init_60 : decode cK0_init 60 = .ok (.new 40, 3) := by decide +kernel
theorem dK0_init_63 : decode cK0_init 63 = .ok (.dup, 1) := by decide +kernel
theorem dK0_init_64 : decode cK0_init 64 = .ok (.invokespecial 42, 3) := by decide +kernel
theorem dK0_init_67 : decode cK0_init 67 = .ok (.putfield 43, 3) := by decide +kernel
theorem dK0_init_70 : decode cK0_init 70 = .ok (.aload_n 0, 1) := by decide +kernel
theorem dK0_init_71 : decode cK0_init 71 = .ok (.iconst 0, 1) := by decide +kernel
theorem dK0_init_72 : decode cK0_init 72 = .ok (.putfield 47, 3) := by decide +kernel
theorem dK0_init_75 : decode cK0_init 75 = .ok (.aload_n 0, 1) := by decide +kernel
theorem dK0_init_76 : decode cK0_init 76 = .ok (.sipush 500, 3) := by decide +kernel
theorem dK0_init_79 : decode cK0_init 79 = .ok (.putfield 51, 3) := by decide +kernel
theorem dK0_init_82 : decode cK0_init 82 = .ok (.aload_n 0, 1) := by decide +kernel
theorem dK0_init_83 : decode cK0_init 83 = .ok (.iconst 0, 1) := by decide +kernel
theorem dK0_init_84 : decode cK0_init 84 = .ok (.putfield 54, 3) := by decide +kernel
theorem dK0_init_87 : decode cK0_init 87 = .ok (.aload_n 0, 1) := by decide +kernel
theorem dK0_init_88 : decode cK0_init 88 = .ok (.iconst 0, 1) := by decide +kernel
theorem dK0_init_89 : decode cK0_init 89 = .ok (.putfield 57, 3) := by decide +kernel
theorem dK0_init_92 : decode cK0_init 92 = .ok (.return_, 1) := by decide +kernel
theorem dK6_init_0 : decode cK6_init 0 = .ok (.aload_n 0, 1) := by decide +kernel
theorem dK6_init_1 : decode cK6_init 1 = .ok (.bipush 16, 2) := by decide +kernel
theorem dK6_init_3 : decode cK6_init 3 = .ok (.invokespecial 1, 3) := by decide +kernel
theorem dK6_init_6 : decode cK6_init 6 = .ok (.return_, 1) := by decide +kernel
theorem dJ1_init_0 : decode cJ1_init 0 = .ok (.aload_n 0, 1) := by decide +kernel
theorem dJ1_init_1 : decode cJ1_init 1 = .ok (.invokespecial 3, 3) := by decide +kernel
theorem dJ1_init_4 : decode cJ1_init 4 = .ok (.getstatic 18, 3) := by decide +kernel
theorem dJ1_init_7 : decode cJ1_init 7 = .ok (.ifCond .eq 18, 3) := by decide +kernel
theorem dJ1_init_10 : decode cJ1_init 10 = .ok (.aload_n 0, 1) := by decide +kernel
theorem dJ1_init_11 : decode cJ1_init 11 = .ok (.iload_n 1, 1) := by decide +kernel
theorem dJ1_init_12 : decode cJ1_init 12 = .ok (.newarray .byte, 2) := by decide +kernel
theorem dJ1_init_14 : decode cJ1_init 14 = .ok (.putfield 15, 3) := by decide +kernel
theorem dJ1_init_17 : decode cJ1_init 17 = .ok (.aload_n 0, 1) := by decide +kernel
theorem dJ1_init_18 : decode cJ1_init 18 = .ok (.iconst 0, 1) := by decide +kernel
theorem dJ1_init_19 : decode cJ1_init 19 = .ok (.putfield 22, 3) := by decide +kernel
theorem dJ1_init_22 : decode cJ1_init 22 = .ok (.goto 16, 3) := by decide +kernel
theorem dJ1_init_38 : decode cJ1_init 38 = .ok (.return_, 1) := by decide +kernel
abbrev wzJ1_init : List Cond := Cond.code yJ1_init cJ1_init 2 none :: ALLW2
theorem gzJ1_init : GoodIn ALLW2 wzJ1_init := gdC2 wdt1_118
abbrev wzK6_init : List Cond := Cond.code yK6_init cK6_init 1 none :: ALLW2
theorem gzK6_init : GoodIn ALLW2 wzK6_init := gdC2 wdt1_115
abbrev wzK0_init : List Cond := Cond.code yK0_init cK0_init 1 none :: ALLW2
theorem gzK0_init : GoodIn ALLW2 wzK0_init := gdC2 wdt1_22
