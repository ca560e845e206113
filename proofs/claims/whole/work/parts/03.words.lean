theorem wt1 {w : Cond} (h : w ∈ tables_1_1) (hg : goodWord w = true) : w ∈ ALLW := List.mem_filter.mpr ⟨List.mem_append_right _ (show w ∈ tables_1 from List.mem_append_left _ h), hg⟩
theorem wt2 {w : Cond} (h : w ∈ tables_1_2) (hg : goodWord w = true) : w ∈ ALLW := List.mem_filter.mpr ⟨List.mem_append_right _ (show w ∈ tables_1 from List.mem_append_right _ (List.mem_append_left _ h)), hg⟩
theorem wt3 {w : Cond} (h : w ∈ tables_1_3) (hg : goodWord w = true) : w ∈ ALLW := List.mem_filter.mpr ⟨List.mem_append_right _ (show w ∈ tables_1 from List.mem_append_right _ (List.mem_append_right _ (List.mem_append_left _ h))), hg⟩
theorem wt4 {w : Cond} (h : w ∈ tables_1_4) (hg : goodWord w = true) : w ∈ ALLW := List.mem_filter.mpr ⟨List.mem_append_right _ (show w ∈ tables_1 from List.mem_append_right _ (List.mem_append_right _ (List.mem_append_right _ (h)))), hg⟩
theorem wp1 {q : MethodName × Nat} (h : q ∈ lw_privs_1) : Cond.selects q.1.cls q.1 q.1 ∈ ALLW := List.mem_filter.mpr ⟨List.mem_append_left _ (List.mem_map.mpr ⟨q, (show q ∈ lw_privs from List.mem_append_left _ h), rfl⟩), rfl⟩
theorem wp2 {q : MethodName × Nat} (h : q ∈ lw_privs_2) : Cond.selects q.1.cls q.1 q.1 ∈ ALLW := List.mem_filter.mpr ⟨List.mem_append_left _ (List.mem_map.mpr ⟨q, (show q ∈ lw_privs from List.mem_append_right _ (List.mem_append_left _ h)), rfl⟩), rfl⟩
theorem wp3 {q : MethodName × Nat} (h : q ∈ lw_privs_3) : Cond.selects q.1.cls q.1 q.1 ∈ ALLW := List.mem_filter.mpr ⟨List.mem_append_left _ (List.mem_map.mpr ⟨q, (show q ∈ lw_privs from List.mem_append_right _ (List.mem_append_right _ (h))), rfl⟩), rfl⟩
theorem wdt1_31 : Cond.methodLink "ReportCauses$Triples" 3 ⟨"java/lang/Object", "<init>", "()V"⟩ ∈ ALLW := wt1 (List.mem_of_getElem? (i := 31) (by decide +kernel)) rfl
theorem wdt1_24 : Cond.instanceMethod ⟨"java/lang/Object", "<init>", "()V"⟩ ∈ ALLW := wt1 (List.mem_of_getElem? (i := 24) (by decide +kernel)) rfl
theorem wdt1_25 : Cond.code objectInit ⟨#[0xb1]⟩ 1 none ∈ ALLW := wt1 (List.mem_of_getElem? (i := 25) rfl) rfl
theorem wdt1_45 : Cond.arrayClass .int ∈ ALLW := wt1 (List.mem_of_getElem? (i := 45) (by decide +kernel)) rfl
theorem wdt1_32 : Cond.fieldLink "ReportCauses$Triples" 9 "ReportCauses$Triples" "objects" "[I" ∈ ALLW := wt1 (List.mem_of_getElem? (i := 32) (by decide +kernel)) rfl
theorem wdt1_33 : Cond.fieldLink "ReportCauses$Triples" 15 "ReportCauses$Triples" "members" "[I" ∈ ALLW := wt1 (List.mem_of_getElem? (i := 33) (by decide +kernel)) rfl
theorem wdt1_34 : Cond.fieldLink "ReportCauses$Triples" 18 "ReportCauses$Triples" "within" "[I" ∈ ALLW := wt1 (List.mem_of_getElem? (i := 34) (by decide +kernel)) rfl
theorem wdt1_35 : Cond.fieldLink "ReportCauses$Triples" 21 "ReportCauses$Triples" "isSorted" "Z" ∈ ALLW := wt1 (List.mem_of_getElem? (i := 35) (by decide +kernel)) rfl
theorem wdt1_51 : Cond.methodLink "ReportCauses$Rules" 3 ⟨"java/lang/Object", "<init>", "()V"⟩ ∈ ALLW := wt1 (List.mem_of_getElem? (i := 51) (by decide +kernel)) rfl
theorem wdt1_52 : Cond.fieldLink "ReportCauses$Rules" 9 "ReportCauses$Rules" "kind" "[I" ∈ ALLW := wt1 (List.mem_of_getElem? (i := 52) (by decide +kernel)) rfl
theorem wdt1_54 : Cond.fieldLink "ReportCauses$Rules" 15 "ReportCauses$Rules" "target" "[I" ∈ ALLW := wt1 (List.mem_of_getElem? (i := 54) (by decide +kernel)) rfl
theorem wdt1_56 : Cond.fieldLink "ReportCauses$Rules" 18 "ReportCauses$Rules" "predicate" "[I" ∈ ALLW := wt1 (List.mem_of_getElem? (i := 56) (by decide +kernel)) rfl
theorem wdt1_58 : Cond.fieldLink "ReportCauses$Rules" 21 "ReportCauses$Rules" "number" "[I" ∈ ALLW := wt1 (List.mem_of_getElem? (i := 58) (by decide +kernel)) rfl
theorem wdt1_60 : Cond.fieldLink "ReportCauses$Rules" 24 "ReportCauses$Rules" "count" "I" ∈ ALLW := wt1 (List.mem_of_getElem? (i := 60) (by decide +kernel)) rfl
theorem wdt1_78 : Cond.methodLink "ReportCauses$Changes" 3 ⟨"java/lang/Object", "<init>", "()V"⟩ ∈ ALLW := wt1 (List.mem_of_getElem? (i := 78) (by decide +kernel)) rfl
theorem wdt1_93 : Cond.arrayClass .boolean ∈ ALLW := wt1 (List.mem_of_getElem? (i := 93) (by decide +kernel)) rfl
theorem wdt1_79 : Cond.fieldLink "ReportCauses$Changes" 9 "ReportCauses$Changes" "puts" "[Z" ∈ ALLW := wt1 (List.mem_of_getElem? (i := 79) (by decide +kernel)) rfl
theorem wdt1_80 : Cond.fieldLink "ReportCauses$Changes" 15 "ReportCauses$Changes" "code" "[I" ∈ ALLW := wt1 (List.mem_of_getElem? (i := 80) (by decide +kernel)) rfl
theorem wdt1_81 : Cond.fieldLink "ReportCauses$Changes" 19 "ReportCauses$Changes" "weighs" "[I" ∈ ALLW := wt1 (List.mem_of_getElem? (i := 81) (by decide +kernel)) rfl
theorem wdt1_82 : Cond.fieldLink "ReportCauses$Changes" 22 "ReportCauses$Changes" "count" "I" ∈ ALLW := wt1 (List.mem_of_getElem? (i := 82) (by decide +kernel)) rfl
theorem wdt1_99 : Cond.methodLink "ReportCauses$Findings" 3 ⟨"java/lang/Object", "<init>", "()V"⟩ ∈ ALLW := wt1 (List.mem_of_getElem? (i := 99) (by decide +kernel)) rfl
theorem wdt1_100 : Cond.fieldLink "ReportCauses$Findings" 9 "ReportCauses$Findings" "sets" "[I" ∈ ALLW := wt1 (List.mem_of_getElem? (i := 100) (by decide +kernel)) rfl
theorem wdt1_101 : Cond.fieldLink "ReportCauses$Findings" 15 "ReportCauses$Findings" "sums" "[I" ∈ ALLW := wt1 (List.mem_of_getElem? (i := 101) (by decide +kernel)) rfl
theorem wdt1_102 : Cond.fieldLink "ReportCauses$Findings" 18 "ReportCauses$Findings" "count" "I" ∈ ALLW := wt1 (List.mem_of_getElem? (i := 102) (by decide +kernel)) rfl
theorem wdt1_185 : Cond.methodLink "ReportCauses" 65 yK0_isNode ∈ ALLW := wt1 (List.mem_of_getElem? (i := 185) (by decide +kernel)) rfl
theorem wdt1_186 : Cond.static yK0_isNode ∈ ALLW := wt1 (List.mem_of_getElem? (i := 186) (by decide +kernel)) rfl
theorem wdt1_1 : Cond.initialized "ReportCauses" ∈ ALLW := wt1 (List.mem_of_getElem? (i := 1) (by decide +kernel)) rfl
theorem wdt1_188 : Cond.methodLink "ReportCauses" 69 yK0_isPredicate ∈ ALLW := wt1 (List.mem_of_getElem? (i := 188) (by decide +kernel)) rfl
theorem wdt1_189 : Cond.static yK0_isPredicate ∈ ALLW := wt1 (List.mem_of_getElem? (i := 189) (by decide +kernel)) rfl
theorem wdt1_195 : Cond.methodLink "ReportCauses$Triples" 25 yK1_objectsOf ∈ ALLW := wt1 (List.mem_of_getElem? (i := 195) (by decide +kernel)) rfl
theorem wdt1_196 : Cond.instanceMethod yK1_objectsOf ∈ ALLW := wt1 (List.mem_of_getElem? (i := 196) (by decide +kernel)) rfl
theorem wdt1_197 : Cond.selects "ReportCauses$Triples" yK1_objectsOf yK1_objectsOf ∈ ALLW := wt1 (List.mem_of_getElem? (i := 197) (by decide +kernel)) rfl
theorem wdt1_2 : Cond.initialized "ReportCauses$Triples" ∈ ALLW := wt1 (List.mem_of_getElem? (i := 2) (by decide +kernel)) rfl
theorem wdt1_200 : Cond.static yK0_hasMember ∈ ALLW := wt1 (List.mem_of_getElem? (i := 200) (by decide +kernel)) rfl
theorem wdt1_226 : Cond.constant "java/lang/Integer" 264 65536 ∈ ALLW := wt1 (List.mem_of_getElem? (i := 226) (by decide +kernel)) rfl
theorem wdt1_223 : Cond.methodLink "ReportCauses$Triples" 62 yJ2_numberOfTrailingZeros ∈ ALLW := wt1 (List.mem_of_getElem? (i := 223) (by decide +kernel)) rfl
theorem wdt1_224 : Cond.static yJ2_numberOfTrailingZeros ∈ ALLW := wt1 (List.mem_of_getElem? (i := 224) (by decide +kernel)) rfl
theorem wdt1_12 : Cond.initialized "java/lang/Integer" ∈ ALLW := wt1 (List.mem_of_getElem? (i := 12) (by decide +kernel)) rfl
theorem wdt1_227 : Cond.methodLink "ReportCauses$Triples" 67 yJ9_min ∈ ALLW := wt1 (List.mem_of_getElem? (i := 227) (by decide +kernel)) rfl
theorem wdt1_228 : Cond.static yJ9_min ∈ ALLW := wt1 (List.mem_of_getElem? (i := 228) (by decide +kernel)) rfl
theorem wdt1_13 : Cond.initialized "java/lang/Math" ∈ ALLW := wt1 (List.mem_of_getElem? (i := 13) (by decide +kernel)) rfl
theorem wdt1_229 : Cond.code yJ9_min cJ9_min 2 (some .int) ∈ ALLW := wt1 (List.mem_of_getElem? (i := 229) rfl) rfl
theorem wdt1_220 : Cond.methodLink "ReportCauses$Triples" 52 yK1_least ∈ ALLW := wt1 (List.mem_of_getElem? (i := 220) (by decide +kernel)) rfl
theorem wdt1_221 : Cond.static yK1_least ∈ ALLW := wt1 (List.mem_of_getElem? (i := 221) (by decide +kernel)) rfl
theorem wdt1_213 : Cond.methodLink "ReportCauses$Triples" 39 yJ6_fill_aIIV ∈ ALLW := wt1 (List.mem_of_getElem? (i := 213) (by decide +kernel)) rfl
theorem wdt1_214 : Cond.static yJ6_fill_aIIV ∈ ALLW := wt1 (List.mem_of_getElem? (i := 214) (by decide +kernel)) rfl
theorem wdt1_11 : Cond.initialized "java/util/Arrays" ∈ ALLW := wt1 (List.mem_of_getElem? (i := 11) (by decide +kernel)) rfl
theorem wdt1_216 : Cond.methodLink "ReportCauses$Triples" 45 yK1_classesOf ∈ ALLW := wt1 (List.mem_of_getElem? (i := 216) (by decide +kernel)) rfl
theorem wdt1_218 : Cond.instanceMethod yK1_classesOf ∈ ALLW := wt1 (List.mem_of_getElem? (i := 218) (by decide +kernel)) rfl
theorem wds1_1 : Cond.selects "ReportCauses$Triples" yK1_classesOf yK1_classesOf ∈ ALLW := wp1 (List.mem_of_getElem? (i := 1) rfl)
theorem wdt1_182 : Cond.methodLink "ReportCauses" 104 yK0_isTriple ∈ ALLW := wt1 (List.mem_of_getElem? (i := 182) (by decide +kernel)) rfl
theorem wdt1_183 : Cond.static yK0_isTriple ∈ ALLW := wt1 (List.mem_of_getElem? (i := 183) (by decide +kernel)) rfl
theorem wdt1_143 : Cond.fieldLink "ReportCauses" 12 "ReportCauses" "triples" "LReportCauses$Triples;" ∈ ALLW := wt1 (List.mem_of_getElem? (i := 143) (by decide +kernel)) rfl
theorem wdt1_191 : Cond.methodLink "ReportCauses" 126 yK1_has ∈ ALLW := wt1 (List.mem_of_getElem? (i := 191) (by decide +kernel)) rfl
theorem wdt1_192 : Cond.instanceMethod yK1_has ∈ ALLW := wt1 (List.mem_of_getElem? (i := 192) (by decide +kernel)) rfl
theorem wdt1_193 : Cond.selects "ReportCauses$Triples" yK1_has yK1_has ∈ ALLW := wt1 (List.mem_of_getElem? (i := 193) (by decide +kernel)) rfl
theorem wdt1_202 : Cond.methodLink "ReportCauses" 108 yK0_codeOf ∈ ALLW := wt1 (List.mem_of_getElem? (i := 202) (by decide +kernel)) rfl
theorem wdt1_203 : Cond.static yK0_codeOf ∈ ALLW := wt1 (List.mem_of_getElem? (i := 203) (by decide +kernel)) rfl
theorem wdt1_205 : Cond.methodLink "ReportCauses" 206 yK1_alter ∈ ALLW := wt1 (List.mem_of_getElem? (i := 205) (by decide +kernel)) rfl
theorem wdt1_206 : Cond.instanceMethod yK1_alter ∈ ALLW := wt1 (List.mem_of_getElem? (i := 206) (by decide +kernel)) rfl
theorem wdt1_207 : Cond.selects "ReportCauses$Triples" yK1_alter yK1_alter ∈ ALLW := wt1 (List.mem_of_getElem? (i := 207) (by decide +kernel)) rfl
theorem wdt1_209 : Cond.methodLink "ReportCauses" 167 yK1_sortIntoClasses ∈ ALLW := wt1 (List.mem_of_getElem? (i := 209) (by decide +kernel)) rfl
theorem wdt1_210 : Cond.instanceMethod yK1_sortIntoClasses ∈ ALLW := wt1 (List.mem_of_getElem? (i := 210) (by decide +kernel)) rfl
theorem wdt1_211 : Cond.selects "ReportCauses$Triples" yK1_sortIntoClasses yK1_sortIntoClasses ∈ ALLW := wt1 (List.mem_of_getElem? (i := 211) (by decide +kernel)) rfl
theorem wdt1_178 : Cond.methodLink "ReportCauses" 61 yK0_putOrTake ∈ ALLW := wt1 (List.mem_of_getElem? (i := 178) (by decide +kernel)) rfl
theorem wdt1_180 : Cond.instanceMethod yK0_putOrTake ∈ ALLW := wt1 (List.mem_of_getElem? (i := 180) (by decide +kernel)) rfl
theorem wds1_0 : Cond.selects "ReportCauses" yK0_putOrTake yK0_putOrTake ∈ ALLW := wp1 (List.mem_of_getElem? (i := 0) rfl)
theorem wdt1_238 : Cond.methodLink "ReportCauses" 72 yK0_fitsKind ∈ ALLW := wt1 (List.mem_of_getElem? (i := 238) (by decide +kernel)) rfl
theorem wdt1_239 : Cond.static yK0_fitsKind ∈ ALLW := wt1 (List.mem_of_getElem? (i := 239) (by decide +kernel)) rfl
theorem wdt1_145 : Cond.fieldLink "ReportCauses" 22 "ReportCauses" "rules" "LReportCauses$Rules;" ∈ ALLW := wt1 (List.mem_of_getElem? (i := 145) (by decide +kernel)) rfl
theorem wdt2_1 : Cond.methodLink "ReportCauses" 76 yK2_add ∈ ALLW := wt2 (List.mem_of_getElem? (i := 1) (by decide +kernel)) rfl
theorem wdt2_2 : Cond.instanceMethod yK2_add ∈ ALLW := wt2 (List.mem_of_getElem? (i := 2) (by decide +kernel)) rfl
theorem wdt2_3 : Cond.selects "ReportCauses$Rules" yK2_add yK2_add ∈ ALLW := wt2 (List.mem_of_getElem? (i := 3) (by decide +kernel)) rfl
theorem wdt1_3 : Cond.initialized "ReportCauses$Rules" ∈ ALLW := wt1 (List.mem_of_getElem? (i := 3) (by decide +kernel)) rfl
theorem wdt2_26 : Cond.constant "java/lang/Integer" 265 1431655765 ∈ ALLW := wt2 (List.mem_of_getElem? (i := 26) (by decide +kernel)) rfl
theorem wdt2_27 : Cond.constant "java/lang/Integer" 266 858993459 ∈ ALLW := wt2 (List.mem_of_getElem? (i := 27) (by decide +kernel)) rfl
theorem wdt2_28 : Cond.constant "java/lang/Integer" 267 252645135 ∈ ALLW := wt2 (List.mem_of_getElem? (i := 28) (by decide +kernel)) rfl
theorem wdt2_22 : Cond.methodLink "ReportCauses$Rules" 45 yK1_objectsOf ∈ ALLW := wt2 (List.mem_of_getElem? (i := 22) (by decide +kernel)) rfl
theorem wdt2_23 : Cond.methodLink "ReportCauses$Rules" 49 yJ2_bitCount ∈ ALLW := wt2 (List.mem_of_getElem? (i := 23) (by decide +kernel)) rfl
theorem wdt2_24 : Cond.static yJ2_bitCount ∈ ALLW := wt2 (List.mem_of_getElem? (i := 24) (by decide +kernel)) rfl
theorem wdt2_13 : Cond.methodLink "ReportCauses$Rules" 38 yK1_membersOf ∈ ALLW := wt2 (List.mem_of_getElem? (i := 13) (by decide +kernel)) rfl
theorem wdt2_14 : Cond.instanceMethod yK1_membersOf ∈ ALLW := wt2 (List.mem_of_getElem? (i := 14) (by decide +kernel)) rfl
theorem wdt2_15 : Cond.selects "ReportCauses$Triples" yK1_membersOf yK1_membersOf ∈ ALLW := wt2 (List.mem_of_getElem? (i := 15) (by decide +kernel)) rfl
theorem wdt2_18 : Cond.methodLink "ReportCauses$Rules" 34 yK2_holds ∈ ALLW := wt2 (List.mem_of_getElem? (i := 18) (by decide +kernel)) rfl
theorem wdt2_20 : Cond.instanceMethod yK2_holds ∈ ALLW := wt2 (List.mem_of_getElem? (i := 20) (by decide +kernel)) rfl
theorem wds1_2 : Cond.selects "ReportCauses$Rules" yK2_holds yK2_holds ∈ ALLW := wp1 (List.mem_of_getElem? (i := 2) rfl)
theorem wdt2_9 : Cond.methodLink "ReportCauses" 83 yK2_failing ∈ ALLW := wt2 (List.mem_of_getElem? (i := 9) (by decide +kernel)) rfl
theorem wdt2_10 : Cond.instanceMethod yK2_failing ∈ ALLW := wt2 (List.mem_of_getElem? (i := 10) (by decide +kernel)) rfl
theorem wdt2_11 : Cond.selects "ReportCauses$Rules" yK2_failing yK2_failing ∈ ALLW := wt2 (List.mem_of_getElem? (i := 11) (by decide +kernel)) rfl
theorem wdt2_29 : Cond.methodLink "ReportCauses" 87 yJ2_bitCount ∈ ALLW := wt2 (List.mem_of_getElem? (i := 29) (by decide +kernel)) rfl
theorem wdt2_41 : Cond.methodLink "ReportCauses" 180 yK0_hasMember ∈ ALLW := wt2 (List.mem_of_getElem? (i := 41) (by decide +kernel)) rfl
theorem wdt2_38 : Cond.methodLink "ReportCauses" 153 yK0_nthMember ∈ ALLW := wt2 (List.mem_of_getElem? (i := 38) (by decide +kernel)) rfl
theorem wdt2_39 : Cond.static yK0_nthMember ∈ ALLW := wt2 (List.mem_of_getElem? (i := 39) (by decide +kernel)) rfl
theorem wdt1_144 : Cond.fieldLink "ReportCauses" 16 "ReportCauses" "trial" "LReportCauses$Triples;" ∈ ALLW := wt1 (List.mem_of_getElem? (i := 144) (by decide +kernel)) rfl
theorem wdt2_34 : Cond.methodLink "ReportCauses" 93 yK0_nthResult ∈ ALLW := wt2 (List.mem_of_getElem? (i := 34) (by decide +kernel)) rfl
theorem wdt2_36 : Cond.instanceMethod yK0_nthResult ∈ ALLW := wt2 (List.mem_of_getElem? (i := 36) (by decide +kernel)) rfl
theorem wds1_3 : Cond.selects "ReportCauses" yK0_nthResult yK0_nthResult ∈ ALLW := wp1 (List.mem_of_getElem? (i := 3) rfl)
theorem wdt2_46 : Cond.methodLink "ReportCauses" 97 yK1_isMember ∈ ALLW := wt2 (List.mem_of_getElem? (i := 46) (by decide +kernel)) rfl
theorem wdt2_47 : Cond.instanceMethod yK1_isMember ∈ ALLW := wt2 (List.mem_of_getElem? (i := 47) (by decide +kernel)) rfl
theorem wdt2_48 : Cond.selects "ReportCauses$Triples" yK1_isMember yK1_isMember ∈ ALLW := wt2 (List.mem_of_getElem? (i := 48) (by decide +kernel)) rfl
theorem wdt2_62 : Cond.methodLink "ReportCauses$Triples" 59 yK1_leadingInto ∈ ALLW := wt2 (List.mem_of_getElem? (i := 62) (by decide +kernel)) rfl
theorem wdt2_64 : Cond.instanceMethod yK1_leadingInto ∈ ALLW := wt2 (List.mem_of_getElem? (i := 64) (by decide +kernel)) rfl
theorem wds1_5 : Cond.selects "ReportCauses$Triples" yK1_leadingInto yK1_leadingInto ∈ ALLW := wp1 (List.mem_of_getElem? (i := 5) rfl)
theorem wdt2_58 : Cond.methodLink "ReportCauses$Triples" 49 yK1_fewestBelows ∈ ALLW := wt2 (List.mem_of_getElem? (i := 58) (by decide +kernel)) rfl
theorem wdt2_60 : Cond.instanceMethod yK1_fewestBelows ∈ ALLW := wt2 (List.mem_of_getElem? (i := 60) (by decide +kernel)) rfl
theorem wds1_4 : Cond.selects "ReportCauses$Triples" yK1_fewestBelows yK1_fewestBelows ∈ ALLW := wp1 (List.mem_of_getElem? (i := 4) rfl)
theorem wdt2_54 : Cond.methodLink "ReportCauses" 100 yK1_nthOfReason ∈ ALLW := wt2 (List.mem_of_getElem? (i := 54) (by decide +kernel)) rfl
theorem wdt2_55 : Cond.instanceMethod yK1_nthOfReason ∈ ALLW := wt2 (List.mem_of_getElem? (i := 55) (by decide +kernel)) rfl
theorem wdt2_56 : Cond.selects "ReportCauses$Triples" yK1_nthOfReason yK1_nthOfReason ∈ ALLW := wt2 (List.mem_of_getElem? (i := 56) (by decide +kernel)) rfl
theorem wdt1_146 : Cond.fieldLink "ReportCauses" 29 "ReportCauses" "changes" "LReportCauses$Changes;" ∈ ALLW := wt1 (List.mem_of_getElem? (i := 146) (by decide +kernel)) rfl
theorem wdt2_71 : Cond.methodLink "ReportCauses" 111 yK3_add ∈ ALLW := wt2 (List.mem_of_getElem? (i := 71) (by decide +kernel)) rfl
theorem wdt2_72 : Cond.instanceMethod yK3_add ∈ ALLW := wt2 (List.mem_of_getElem? (i := 72) (by decide +kernel)) rfl
theorem wdt2_73 : Cond.selects "ReportCauses$Changes" yK3_add yK3_add ∈ ALLW := wt2 (List.mem_of_getElem? (i := 73) (by decide +kernel)) rfl
theorem wdt1_4 : Cond.initialized "ReportCauses$Changes" ∈ ALLW := wt1 (List.mem_of_getElem? (i := 4) (by decide +kernel)) rfl
theorem wdt2_87 : Cond.methodLink "ReportCauses$Rules" 28 yK1_isMember ∈ ALLW := wt2 (List.mem_of_getElem? (i := 87) (by decide +kernel)) rfl
theorem wdt2_88 : Cond.methodLink "ReportCauses" 128 yK0_offer ∈ ALLW := wt2 (List.mem_of_getElem? (i := 88) (by decide +kernel)) rfl
theorem wdt2_90 : Cond.instanceMethod yK0_offer ∈ ALLW := wt2 (List.mem_of_getElem? (i := 90) (by decide +kernel)) rfl
theorem wds1_6 : Cond.selects "ReportCauses" yK0_offer yK0_offer ∈ ALLW := wp1 (List.mem_of_getElem? (i := 6) rfl)
theorem wdt2_79 : Cond.methodLink "ReportCauses" 114 yK2_has ∈ ALLW := wt2 (List.mem_of_getElem? (i := 79) (by decide +kernel)) rfl
theorem wdt2_80 : Cond.instanceMethod yK2_has ∈ ALLW := wt2 (List.mem_of_getElem? (i := 80) (by decide +kernel)) rfl
theorem wdt2_81 : Cond.selects "ReportCauses$Rules" yK2_has yK2_has ∈ ALLW := wt2 (List.mem_of_getElem? (i := 81) (by decide +kernel)) rfl
theorem wdt2_83 : Cond.methodLink "ReportCauses" 117 yK2_fails ∈ ALLW := wt2 (List.mem_of_getElem? (i := 83) (by decide +kernel)) rfl
theorem wdt2_84 : Cond.instanceMethod yK2_fails ∈ ALLW := wt2 (List.mem_of_getElem? (i := 84) (by decide +kernel)) rfl
theorem wdt2_85 : Cond.selects "ReportCauses$Rules" yK2_fails yK2_fails ∈ ALLW := wt2 (List.mem_of_getElem? (i := 85) (by decide +kernel)) rfl
theorem wdt2_92 : Cond.methodLink "ReportCauses" 132 yK0_offerAbout ∈ ALLW := wt2 (List.mem_of_getElem? (i := 92) (by decide +kernel)) rfl
theorem wdt2_94 : Cond.instanceMethod yK0_offerAbout ∈ ALLW := wt2 (List.mem_of_getElem? (i := 94) (by decide +kernel)) rfl
theorem wds1_7 : Cond.selects "ReportCauses" yK0_offerAbout yK0_offerAbout ∈ ALLW := wp1 (List.mem_of_getElem? (i := 7) rfl)
theorem wdt2_100 : Cond.methodLink "ReportCauses" 136 yK3_forget ∈ ALLW := wt2 (List.mem_of_getElem? (i := 100) (by decide +kernel)) rfl
theorem wdt2_101 : Cond.instanceMethod yK3_forget ∈ ALLW := wt2 (List.mem_of_getElem? (i := 101) (by decide +kernel)) rfl
theorem wdt2_102 : Cond.selects "ReportCauses$Changes" yK3_forget yK3_forget ∈ ALLW := wt2 (List.mem_of_getElem? (i := 102) (by decide +kernel)) rfl
theorem wdt1_147 : Cond.fieldLink "ReportCauses" 36 "ReportCauses" "found" "LReportCauses$Findings;" ∈ ALLW := wt1 (List.mem_of_getElem? (i := 147) (by decide +kernel)) rfl
theorem wdt2_104 : Cond.methodLink "ReportCauses" 139 yK4_forget ∈ ALLW := wt2 (List.mem_of_getElem? (i := 104) (by decide +kernel)) rfl
theorem wdt2_105 : Cond.instanceMethod yK4_forget ∈ ALLW := wt2 (List.mem_of_getElem? (i := 105) (by decide +kernel)) rfl
theorem wdt2_106 : Cond.selects "ReportCauses$Findings" yK4_forget yK4_forget ∈ ALLW := wt2 (List.mem_of_getElem? (i := 106) (by decide +kernel)) rfl
theorem wdt1_5 : Cond.initialized "ReportCauses$Findings" ∈ ALLW := wt1 (List.mem_of_getElem? (i := 5) (by decide +kernel)) rfl
theorem wdt1_149 : Cond.fieldLink "ReportCauses" 47 "ReportCauses" "coveredSet" "I" ∈ ALLW := wt1 (List.mem_of_getElem? (i := 149) (by decide +kernel)) rfl
theorem wdt1_150 : Cond.fieldLink "ReportCauses" 51 "ReportCauses" "allowedTries" "I" ∈ ALLW := wt1 (List.mem_of_getElem? (i := 150) (by decide +kernel)) rfl
theorem wdt2_124 : Cond.methodLink "ReportCauses" 203 yJ2_numberOfLeadingZeros ∈ ALLW := wt2 (List.mem_of_getElem? (i := 124) (by decide +kernel)) rfl
theorem wdt2_125 : Cond.static yJ2_numberOfLeadingZeros ∈ ALLW := wt2 (List.mem_of_getElem? (i := 125) (by decide +kernel)) rfl
theorem wdt2_139 : Cond.methodLink "ReportCauses$Triples" 33 ⟨"java/lang/System", "arraycopy", "(Ljava/lang/Object;ILjava/lang/Object;II)V"⟩ ∈ ALLW := wt2 (List.mem_of_getElem? (i := 139) (by decide +kernel)) rfl
theorem wdt2_141 : Cond.native ⟨"java/lang/System", "arraycopy", "(Ljava/lang/Object;ILjava/lang/Object;II)V"⟩ ∈ ALLW := wt2 (List.mem_of_getElem? (i := 141) (by decide +kernel)) rfl
theorem wdt2_140 : Cond.static ⟨"java/lang/System", "arraycopy", "(Ljava/lang/Object;ILjava/lang/Object;II)V"⟩ ∈ ALLW := wt2 (List.mem_of_getElem? (i := 140) (by decide +kernel)) rfl
theorem wdt1_14 : Cond.initialized "java/lang/System" ∈ ALLW := wt1 (List.mem_of_getElem? (i := 14) (by decide +kernel)) rfl
theorem wdt2_147 : Cond.methodLink "ReportCauses$Changes" 30 yK1_alter ∈ ALLW := wt2 (List.mem_of_getElem? (i := 147) (by decide +kernel)) rfl
theorem wdt2_135 : Cond.methodLink "ReportCauses" 219 yK1_copyFrom ∈ ALLW := wt2 (List.mem_of_getElem? (i := 135) (by decide +kernel)) rfl
theorem wdt2_136 : Cond.instanceMethod yK1_copyFrom ∈ ALLW := wt2 (List.mem_of_getElem? (i := 136) (by decide +kernel)) rfl
theorem wdt2_137 : Cond.selects "ReportCauses$Triples" yK1_copyFrom yK1_copyFrom ∈ ALLW := wt2 (List.mem_of_getElem? (i := 137) (by decide +kernel)) rfl
theorem wdt2_142 : Cond.methodLink "ReportCauses" 163 yK3_doAll ∈ ALLW := wt2 (List.mem_of_getElem? (i := 142) (by decide +kernel)) rfl
theorem wdt2_143 : Cond.instanceMethod yK3_doAll ∈ ALLW := wt2 (List.mem_of_getElem? (i := 143) (by decide +kernel)) rfl
theorem wdt2_144 : Cond.selects "ReportCauses$Changes" yK3_doAll yK3_doAll ∈ ALLW := wt2 (List.mem_of_getElem? (i := 144) (by decide +kernel)) rfl
theorem wdt1_151 : Cond.fieldLink "ReportCauses" 54 "ReportCauses" "latestTried" "I" ∈ ALLW := wt1 (List.mem_of_getElem? (i := 151) (by decide +kernel)) rfl
theorem wdt1_152 : Cond.fieldLink "ReportCauses" 57 "ReportCauses" "latestSettled" "Z" ∈ ALLW := wt1 (List.mem_of_getElem? (i := 152) (by decide +kernel)) rfl
theorem wdt2_121 : Cond.methodLink "ReportCauses" 223 yK0_nextSet ∈ ALLW := wt2 (List.mem_of_getElem? (i := 121) (by decide +kernel)) rfl
theorem wdt2_122 : Cond.static yK0_nextSet ∈ ALLW := wt2 (List.mem_of_getElem? (i := 122) (by decide +kernel)) rfl
theorem wdt2_127 : Cond.methodLink "ReportCauses" 226 yK4_hasPartOf ∈ ALLW := wt2 (List.mem_of_getElem? (i := 127) (by decide +kernel)) rfl
theorem wdt2_128 : Cond.instanceMethod yK4_hasPartOf ∈ ALLW := wt2 (List.mem_of_getElem? (i := 128) (by decide +kernel)) rfl
theorem wdt2_129 : Cond.selects "ReportCauses$Findings" yK4_hasPartOf yK4_hasPartOf ∈ ALLW := wt2 (List.mem_of_getElem? (i := 129) (by decide +kernel)) rfl
theorem wdt2_131 : Cond.methodLink "ReportCauses" 159 yK0_tryOut ∈ ALLW := wt2 (List.mem_of_getElem? (i := 131) (by decide +kernel)) rfl
theorem wdt2_133 : Cond.instanceMethod yK0_tryOut ∈ ALLW := wt2 (List.mem_of_getElem? (i := 133) (by decide +kernel)) rfl
theorem wds1_9 : Cond.selects "ReportCauses" yK0_tryOut yK0_tryOut ∈ ALLW := wp1 (List.mem_of_getElem? (i := 9) rfl)
theorem wdt2_148 : Cond.methodLink "ReportCauses" 156 yK3_weightOf ∈ ALLW := wt2 (List.mem_of_getElem? (i := 148) (by decide +kernel)) rfl
theorem wdt2_149 : Cond.instanceMethod yK3_weightOf ∈ ALLW := wt2 (List.mem_of_getElem? (i := 149) (by decide +kernel)) rfl
theorem wdt2_150 : Cond.selects "ReportCauses$Changes" yK3_weightOf yK3_weightOf ∈ ALLW := wt2 (List.mem_of_getElem? (i := 150) (by decide +kernel)) rfl
theorem wdt2_152 : Cond.methodLink "ReportCauses" 229 yK4_add ∈ ALLW := wt2 (List.mem_of_getElem? (i := 152) (by decide +kernel)) rfl
theorem wdt2_153 : Cond.instanceMethod yK4_add ∈ ALLW := wt2 (List.mem_of_getElem? (i := 153) (by decide +kernel)) rfl
theorem wdt2_154 : Cond.selects "ReportCauses$Findings" yK4_add yK4_add ∈ ALLW := wt2 (List.mem_of_getElem? (i := 154) (by decide +kernel)) rfl
theorem wdt2_116 : Cond.methodLink "ReportCauses" 140 yJ9_min ∈ ALLW := wt2 (List.mem_of_getElem? (i := 116) (by decide +kernel)) rfl
theorem wdt2_117 : Cond.methodLink "ReportCauses" 146 yK0_findSets ∈ ALLW := wt2 (List.mem_of_getElem? (i := 117) (by decide +kernel)) rfl
theorem wdt2_119 : Cond.instanceMethod yK0_findSets ∈ ALLW := wt2 (List.mem_of_getElem? (i := 119) (by decide +kernel)) rfl
theorem wds1_8 : Cond.selects "ReportCauses" yK0_findSets yK0_findSets ∈ ALLW := wp1 (List.mem_of_getElem? (i := 8) rfl)
theorem wdt2_168 : Cond.methodLink "ReportCauses" 150 yK4_at ∈ ALLW := wt2 (List.mem_of_getElem? (i := 168) (by decide +kernel)) rfl
theorem wdt2_169 : Cond.instanceMethod yK4_at ∈ ALLW := wt2 (List.mem_of_getElem? (i := 169) (by decide +kernel)) rfl
theorem wdt2_170 : Cond.selects "ReportCauses$Findings" yK4_at yK4_at ∈ ALLW := wt2 (List.mem_of_getElem? (i := 170) (by decide +kernel)) rfl
theorem wdt2_184 : Cond.methodLink "ReportCauses" 170 yK0_results ∈ ALLW := wt2 (List.mem_of_getElem? (i := 184) (by decide +kernel)) rfl
theorem wdt2_6 : Cond.instanceMethod yK0_results ∈ ALLW := wt2 (List.mem_of_getElem? (i := 6) (by decide +kernel)) rfl
theorem wdt2_7 : Cond.selects "ReportCauses" yK0_results yK0_results ∈ ALLW := wt2 (List.mem_of_getElem? (i := 7) (by decide +kernel)) rfl
theorem wdt2_193 : Cond.methodLink "ReportCauses" 232 yK0_putsAllRight ∈ ALLW := wt2 (List.mem_of_getElem? (i := 193) (by decide +kernel)) rfl
theorem wdt2_195 : Cond.instanceMethod yK0_putsAllRight ∈ ALLW := wt2 (List.mem_of_getElem? (i := 195) (by decide +kernel)) rfl
theorem wds1_11 : Cond.selects "ReportCauses" yK0_putsAllRight yK0_putsAllRight ∈ ALLW := wp1 (List.mem_of_getElem? (i := 11) rfl)
theorem wdt2_189 : Cond.methodLink "ReportCauses" 174 yK0_lightestCover ∈ ALLW := wt2 (List.mem_of_getElem? (i := 189) (by decide +kernel)) rfl
theorem wdt2_191 : Cond.instanceMethod yK0_lightestCover ∈ ALLW := wt2 (List.mem_of_getElem? (i := 191) (by decide +kernel)) rfl
theorem wds1_10 : Cond.selects "ReportCauses" yK0_lightestCover yK0_lightestCover ∈ ALLW := wp1 (List.mem_of_getElem? (i := 10) rfl)
theorem wdt2_226 : Cond.constant "jdk/internal/util/ArraysSupport" 200 2147483639 ∈ ALLW := wt2 (List.mem_of_getElem? (i := 226) (by decide +kernel)) rfl
theorem wdt1_128 : Cond.constant "java/lang/StringUTF16" 20 1073741823 ∈ ALLW := wt1 (List.mem_of_getElem? (i := 128) (by decide +kernel)) rfl
theorem wdt3_185 : Cond.methodLink "ReportCausesModel" 1 ⟨"java/lang/Object", "<init>", "()V"⟩ ∈ ALLW := wt3 (List.mem_of_getElem? (i := 185) (by decide +kernel)) rfl
theorem wdt3_186 : Cond.fieldLink "ReportCausesModel" 7 "ReportCausesModel" "there" "[Z" ∈ ALLW := wt3 (List.mem_of_getElem? (i := 186) (by decide +kernel)) rfl
theorem wdt3_187 : Cond.fieldLink "ReportCausesModel" 13 "ReportCausesModel" "now" "[Z" ∈ ALLW := wt3 (List.mem_of_getElem? (i := 187) (by decide +kernel)) rfl
theorem wdt3_189 : Cond.fieldLink "ReportCausesModel" 16 "ReportCausesModel" "kinds" "[I" ∈ ALLW := wt3 (List.mem_of_getElem? (i := 189) (by decide +kernel)) rfl
theorem wdt3_190 : Cond.fieldLink "ReportCausesModel" 20 "ReportCausesModel" "targets" "[I" ∈ ALLW := wt3 (List.mem_of_getElem? (i := 190) (by decide +kernel)) rfl
theorem wdt3_191 : Cond.fieldLink "ReportCausesModel" 23 "ReportCausesModel" "predicates" "[I" ∈ ALLW := wt3 (List.mem_of_getElem? (i := 191) (by decide +kernel)) rfl
theorem wdt3_192 : Cond.fieldLink "ReportCausesModel" 26 "ReportCausesModel" "numbers" "[I" ∈ ALLW := wt3 (List.mem_of_getElem? (i := 192) (by decide +kernel)) rfl
theorem wdt3_194 : Cond.fieldLink "ReportCausesModel" 29 "ReportCausesModel" "puts" "[Z" ∈ ALLW := wt3 (List.mem_of_getElem? (i := 194) (by decide +kernel)) rfl
theorem wdt3_195 : Cond.fieldLink "ReportCausesModel" 32 "ReportCausesModel" "codes" "[I" ∈ ALLW := wt3 (List.mem_of_getElem? (i := 195) (by decide +kernel)) rfl
theorem wdt3_196 : Cond.fieldLink "ReportCausesModel" 35 "ReportCausesModel" "weights" "[I" ∈ ALLW := wt3 (List.mem_of_getElem? (i := 196) (by decide +kernel)) rfl
theorem wdt3_197 : Cond.fieldLink "ReportCausesModel" 38 "ReportCausesModel" "mostTries" "I" ∈ ALLW := wt3 (List.mem_of_getElem? (i := 197) (by decide +kernel)) rfl
theorem wdt3_201 : Cond.fieldLink "ReportCausesModel" 42 "ReportCausesModel" "sets" "[I" ∈ ALLW := wt3 (List.mem_of_getElem? (i := 201) (by decide +kernel)) rfl
theorem wdt3_204 : Cond.fieldLink "ReportCausesModel" 45 "ReportCausesModel" "picks" "[I" ∈ ALLW := wt3 (List.mem_of_getElem? (i := 204) (by decide +kernel)) rfl
theorem wdt3_205 : Cond.fieldLink "ReportCausesModel" 48 "ReportCausesModel" "classes" "[Z" ∈ ALLW := wt3 (List.mem_of_getElem? (i := 205) (by decide +kernel)) rfl
theorem wdt3_206 : Cond.fieldLink "ReportCausesModel" 51 "ReportCausesModel" "steps" "[I" ∈ ALLW := wt3 (List.mem_of_getElem? (i := 206) (by decide +kernel)) rfl
theorem wdt3_207 : Cond.fieldLink "ReportCausesModel" 54 "ReportCausesModel" "told" "[I" ∈ ALLW := wt3 (List.mem_of_getElem? (i := 207) (by decide +kernel)) rfl
theorem wdt3_199 : Cond.fieldLink "ReportCausesModel" 57 "ReportCausesModel" "settled" "Z" ∈ ALLW := wt3 (List.mem_of_getElem? (i := 199) (by decide +kernel)) rfl
theorem wdt4_23 : Cond.methodLink "ReportCausesModel" 61 yK5_in ∈ ALLW := wt4 (List.mem_of_getElem? (i := 23) (by decide +kernel)) rfl
theorem wdt4_24 : Cond.static yK5_in ∈ ALLW := wt4 (List.mem_of_getElem? (i := 24) (by decide +kernel)) rfl
theorem wdt1_10 : Cond.initialized "ReportCausesModel" ∈ ALLW := wt1 (List.mem_of_getElem? (i := 10) (by decide +kernel)) rfl
theorem wdt4_20 : Cond.methodLink "ReportCausesModel" 65 yK5_isTriple ∈ ALLW := wt4 (List.mem_of_getElem? (i := 20) (by decide +kernel)) rfl
theorem wdt4_21 : Cond.static yK5_isTriple ∈ ALLW := wt4 (List.mem_of_getElem? (i := 21) (by decide +kernel)) rfl
theorem wdt4_26 : Cond.methodLink "ReportCausesModel" 68 yK5_codeOf ∈ ALLW := wt4 (List.mem_of_getElem? (i := 26) (by decide +kernel)) rfl
theorem wdt4_27 : Cond.static yK5_codeOf ∈ ALLW := wt4 (List.mem_of_getElem? (i := 27) (by decide +kernel)) rfl
theorem wdt3_188 : Cond.fieldLink "ReportCausesModel" 72 "ReportCausesModel" "rules" "I" ∈ ALLW := wt3 (List.mem_of_getElem? (i := 188) (by decide +kernel)) rfl
theorem wdt3_193 : Cond.fieldLink "ReportCausesModel" 75 "ReportCausesModel" "changes" "I" ∈ ALLW := wt3 (List.mem_of_getElem? (i := 193) (by decide +kernel)) rfl
theorem wdt4_53 : Cond.methodLink "ReportCausesModel" 78 yK5_isOfNow ∈ ALLW := wt4 (List.mem_of_getElem? (i := 53) (by decide +kernel)) rfl
theorem wdt4_55 : Cond.instanceMethod yK5_isOfNow ∈ ALLW := wt4 (List.mem_of_getElem? (i := 55) (by decide +kernel)) rfl
theorem wds1_15 : Cond.selects "ReportCausesModel" yK5_isOfNow yK5_isOfNow ∈ ALLW := wp1 (List.mem_of_getElem? (i := 15) rfl)
theorem wdt4_57 : Cond.methodLink "ReportCausesModel" 82 yK5_holds ∈ ALLW := wt4 (List.mem_of_getElem? (i := 57) (by decide +kernel)) rfl
theorem wdt4_59 : Cond.instanceMethod yK5_holds ∈ ALLW := wt4 (List.mem_of_getElem? (i := 59) (by decide +kernel)) rfl
theorem wds2_0 : Cond.selects "ReportCausesModel" yK5_holds yK5_holds ∈ ALLW := wp2 (List.mem_of_getElem? (i := 0) rfl)
theorem wdt4_49 : Cond.methodLink "ReportCausesModel" 85 yK5_isResult ∈ ALLW := wt4 (List.mem_of_getElem? (i := 49) (by decide +kernel)) rfl
theorem wdt4_51 : Cond.instanceMethod yK5_isResult ∈ ALLW := wt4 (List.mem_of_getElem? (i := 51) (by decide +kernel)) rfl
theorem wds1_14 : Cond.selects "ReportCausesModel" yK5_isResult yK5_isResult ∈ ALLW := wp1 (List.mem_of_getElem? (i := 14) rfl)
theorem wdt4_41 : Cond.methodLink "ReportCausesModel" 88 yK5_begin ∈ ALLW := wt4 (List.mem_of_getElem? (i := 41) (by decide +kernel)) rfl
theorem wdt4_43 : Cond.instanceMethod yK5_begin ∈ ALLW := wt4 (List.mem_of_getElem? (i := 43) (by decide +kernel)) rfl
theorem wds1_12 : Cond.selects "ReportCausesModel" yK5_begin yK5_begin ∈ ALLW := wp1 (List.mem_of_getElem? (i := 12) rfl)
theorem wdt4_45 : Cond.methodLink "ReportCausesModel" 92 yK5_resultsNow ∈ ALLW := wt4 (List.mem_of_getElem? (i := 45) (by decide +kernel)) rfl
theorem wdt4_47 : Cond.instanceMethod yK5_resultsNow ∈ ALLW := wt4 (List.mem_of_getElem? (i := 47) (by decide +kernel)) rfl
theorem wds1_13 : Cond.selects "ReportCausesModel" yK5_resultsNow yK5_resultsNow ∈ ALLW := wp1 (List.mem_of_getElem? (i := 13) rfl)
theorem wdt4_73 : Cond.methodLink "ReportCausesModel" 96 yK5_measure ∈ ALLW := wt4 (List.mem_of_getElem? (i := 73) (by decide +kernel)) rfl
theorem wdt4_75 : Cond.instanceMethod yK5_measure ∈ ALLW := wt4 (List.mem_of_getElem? (i := 75) (by decide +kernel)) rfl
theorem wds2_1 : Cond.selects "ReportCausesModel" yK5_measure yK5_measure ∈ ALLW := wp2 (List.mem_of_getElem? (i := 1) rfl)
theorem wdt4_81 : Cond.methodLink "ReportCausesModel" 99 yK5_isThere ∈ ALLW := wt4 (List.mem_of_getElem? (i := 81) (by decide +kernel)) rfl
theorem wdt4_83 : Cond.instanceMethod yK5_isThere ∈ ALLW := wt4 (List.mem_of_getElem? (i := 83) (by decide +kernel)) rfl
theorem wds2_2 : Cond.selects "ReportCausesModel" yK5_isThere yK5_isThere ∈ ALLW := wp2 (List.mem_of_getElem? (i := 2) rfl)
theorem wdt4_85 : Cond.methodLink "ReportCausesModel" 103 yK5_enter ∈ ALLW := wt4 (List.mem_of_getElem? (i := 85) (by decide +kernel)) rfl
theorem wdt4_87 : Cond.instanceMethod yK5_enter ∈ ALLW := wt4 (List.mem_of_getElem? (i := 87) (by decide +kernel)) rfl
theorem wds2_3 : Cond.selects "ReportCausesModel" yK5_enter yK5_enter ∈ ALLW := wp2 (List.mem_of_getElem? (i := 3) rfl)
theorem wdt4_93 : Cond.methodLink "ReportCausesModel" 107 yK5_isPair ∈ ALLW := wt4 (List.mem_of_getElem? (i := 93) (by decide +kernel)) rfl
theorem wdt4_95 : Cond.instanceMethod yK5_isPair ∈ ALLW := wt4 (List.mem_of_getElem? (i := 95) (by decide +kernel)) rfl
theorem wds2_4 : Cond.selects "ReportCausesModel" yK5_isPair yK5_isPair ∈ ALLW := wp2 (List.mem_of_getElem? (i := 4) rfl)
theorem wdt4_97 : Cond.methodLink "ReportCausesModel" 110 yK5_offer ∈ ALLW := wt4 (List.mem_of_getElem? (i := 97) (by decide +kernel)) rfl
theorem wdt4_99 : Cond.instanceMethod yK5_offer ∈ ALLW := wt4 (List.mem_of_getElem? (i := 99) (by decide +kernel)) rfl
theorem wds2_5 : Cond.selects "ReportCausesModel" yK5_offer yK5_offer ∈ ALLW := wp2 (List.mem_of_getElem? (i := 5) rfl)
theorem wdt3_200 : Cond.fieldLink "ReportCausesModel" 114 "ReportCausesModel" "found" "I" ∈ ALLW := wt3 (List.mem_of_getElem? (i := 200) (by decide +kernel)) rfl
theorem wdt3_202 : Cond.fieldLink "ReportCausesModel" 117 "ReportCausesModel" "isCovered" "Z" ∈ ALLW := wt3 (List.mem_of_getElem? (i := 202) (by decide +kernel)) rfl
theorem wdt3_198 : Cond.fieldLink "ReportCausesModel" 120 "ReportCausesModel" "tried" "I" ∈ ALLW := wt3 (List.mem_of_getElem? (i := 198) (by decide +kernel)) rfl
theorem wdt4_137 : Cond.methodLink "ReportCausesModel" 144 yK5_weightOf ∈ ALLW := wt4 (List.mem_of_getElem? (i := 137) (by decide +kernel)) rfl
theorem wdt4_139 : Cond.instanceMethod yK5_weightOf ∈ ALLW := wt4 (List.mem_of_getElem? (i := 139) (by decide +kernel)) rfl
theorem wds2_12 : Cond.selects "ReportCausesModel" yK5_weightOf yK5_weightOf ∈ ALLW := wp2 (List.mem_of_getElem? (i := 12) rfl)
theorem wdt4_141 : Cond.methodLink "ReportCausesModel" 147 yK5_sizeOf ∈ ALLW := wt4 (List.mem_of_getElem? (i := 141) (by decide +kernel)) rfl
theorem wdt4_142 : Cond.static yK5_sizeOf ∈ ALLW := wt4 (List.mem_of_getElem? (i := 142) (by decide +kernel)) rfl
theorem wdt4_133 : Cond.methodLink "ReportCausesModel" 141 yK5_sort ∈ ALLW := wt4 (List.mem_of_getElem? (i := 133) (by decide +kernel)) rfl
theorem wdt4_135 : Cond.instanceMethod yK5_sort ∈ ALLW := wt4 (List.mem_of_getElem? (i := 135) (by decide +kernel)) rfl
theorem wds2_11 : Cond.selects "ReportCausesModel" yK5_sort yK5_sort ∈ ALLW := wp2 (List.mem_of_getElem? (i := 11) rfl)
theorem wdt4_113 : Cond.methodLink "ReportCausesModel" 123 yK5_first ∈ ALLW := wt4 (List.mem_of_getElem? (i := 113) (by decide +kernel)) rfl
theorem wdt4_115 : Cond.instanceMethod yK5_first ∈ ALLW := wt4 (List.mem_of_getElem? (i := 115) (by decide +kernel)) rfl
theorem wds2_6 : Cond.selects "ReportCausesModel" yK5_first yK5_first ∈ ALLW := wp2 (List.mem_of_getElem? (i := 6) rfl)
theorem wdt4_117 : Cond.methodLink "ReportCausesModel" 126 yK5_setOf ∈ ALLW := wt4 (List.mem_of_getElem? (i := 117) (by decide +kernel)) rfl
theorem wdt4_119 : Cond.instanceMethod yK5_setOf ∈ ALLW := wt4 (List.mem_of_getElem? (i := 119) (by decide +kernel)) rfl
theorem wds2_7 : Cond.selects "ReportCausesModel" yK5_setOf yK5_setOf ∈ ALLW := wp2 (List.mem_of_getElem? (i := 7) rfl)
theorem wdt4_121 : Cond.methodLink "ReportCausesModel" 130 yK5_hasOneWithin ∈ ALLW := wt4 (List.mem_of_getElem? (i := 121) (by decide +kernel)) rfl
theorem wdt4_123 : Cond.instanceMethod yK5_hasOneWithin ∈ ALLW := wt4 (List.mem_of_getElem? (i := 123) (by decide +kernel)) rfl
theorem wds2_8 : Cond.selects "ReportCausesModel" yK5_hasOneWithin yK5_hasOneWithin ∈ ALLW := wp2 (List.mem_of_getElem? (i := 8) rfl)
theorem wdt4_129 : Cond.methodLink "ReportCausesModel" 138 yK5_next ∈ ALLW := wt4 (List.mem_of_getElem? (i := 129) (by decide +kernel)) rfl
theorem wdt4_131 : Cond.instanceMethod yK5_next ∈ ALLW := wt4 (List.mem_of_getElem? (i := 131) (by decide +kernel)) rfl
theorem wds2_10 : Cond.selects "ReportCausesModel" yK5_next yK5_next ∈ ALLW := wp2 (List.mem_of_getElem? (i := 10) rfl)
theorem wdt4_125 : Cond.methodLink "ReportCausesModel" 134 yK5_look ∈ ALLW := wt4 (List.mem_of_getElem? (i := 125) (by decide +kernel)) rfl
theorem wdt4_127 : Cond.instanceMethod yK5_look ∈ ALLW := wt4 (List.mem_of_getElem? (i := 127) (by decide +kernel)) rfl
theorem wds2_9 : Cond.selects "ReportCausesModel" yK5_look yK5_look ∈ ALLW := wp2 (List.mem_of_getElem? (i := 9) rfl)
theorem wdt3_203 : Cond.fieldLink "ReportCausesModel" 153 "ReportCausesModel" "covered" "I" ∈ ALLW := wt3 (List.mem_of_getElem? (i := 203) (by decide +kernel)) rfl
theorem wdt4_148 : Cond.methodLink "ReportCausesModel" 150 yK5_weigh ∈ ALLW := wt4 (List.mem_of_getElem? (i := 148) (by decide +kernel)) rfl
theorem wdt4_150 : Cond.instanceMethod yK5_weigh ∈ ALLW := wt4 (List.mem_of_getElem? (i := 150) (by decide +kernel)) rfl
theorem wds2_13 : Cond.selects "ReportCausesModel" yK5_weigh yK5_weigh ∈ ALLW := wp2 (List.mem_of_getElem? (i := 13) rfl)
theorem wdt4_164 : Cond.methodLink "ReportCausesModel" 156 yK5_isFound ∈ ALLW := wt4 (List.mem_of_getElem? (i := 164) (by decide +kernel)) rfl
theorem wdt4_166 : Cond.instanceMethod yK5_isFound ∈ ALLW := wt4 (List.mem_of_getElem? (i := 166) (by decide +kernel)) rfl
theorem wds2_14 : Cond.selects "ReportCausesModel" yK5_isFound yK5_isFound ∈ ALLW := wp2 (List.mem_of_getElem? (i := 14) rfl)
theorem wdt4_168 : Cond.methodLink "ReportCausesModel" 159 yK5_member ∈ ALLW := wt4 (List.mem_of_getElem? (i := 168) (by decide +kernel)) rfl
theorem wdt4_169 : Cond.static yK5_member ∈ ALLW := wt4 (List.mem_of_getElem? (i := 169) (by decide +kernel)) rfl
theorem wdt3_208 : Cond.fieldLink "ReportCausesModel" 163 "ReportCausesModel" "toldMany" "I" ∈ ALLW := wt3 (List.mem_of_getElem? (i := 208) (by decide +kernel)) rfl
theorem wdt4_191 : Cond.methodLink "ReportCausesModel" 166 yK5_tell ∈ ALLW := wt4 (List.mem_of_getElem? (i := 191) (by decide +kernel)) rfl
theorem wdt4_193 : Cond.instanceMethod yK5_tell ∈ ALLW := wt4 (List.mem_of_getElem? (i := 193) (by decide +kernel)) rfl
theorem wds2_15 : Cond.selects "ReportCausesModel" yK5_tell yK5_tell ∈ ALLW := wp2 (List.mem_of_getElem? (i := 15) rfl)
theorem wdt4_195 : Cond.methodLink "ReportCausesModel" 169 yK5_tellNumber ∈ ALLW := wt4 (List.mem_of_getElem? (i := 195) (by decide +kernel)) rfl
theorem wdt4_197 : Cond.instanceMethod yK5_tellNumber ∈ ALLW := wt4 (List.mem_of_getElem? (i := 197) (by decide +kernel)) rfl
theorem wds3_0 : Cond.selects "ReportCausesModel" yK5_tellNumber yK5_tellNumber ∈ ALLW := wp3 (List.mem_of_getElem? (i := 0) rfl)
theorem wdt1_153 : Cond.laysFinal "ReportCauses" "ReportCauses" "triples" "LReportCauses$Triples;" ∈ ALLW := wt1 (List.mem_of_getElem? (i := 153) (by decide +kernel)) rfl
theorem wdt1_155 : Cond.laysFinal "ReportCauses" "ReportCauses" "trial" "LReportCauses$Triples;" ∈ ALLW := wt1 (List.mem_of_getElem? (i := 155) (by decide +kernel)) rfl
theorem wdt1_157 : Cond.laysFinal "ReportCauses" "ReportCauses" "rules" "LReportCauses$Rules;" ∈ ALLW := wt1 (List.mem_of_getElem? (i := 157) (by decide +kernel)) rfl
theorem wdt1_159 : Cond.laysFinal "ReportCauses" "ReportCauses" "changes" "LReportCauses$Changes;" ∈ ALLW := wt1 (List.mem_of_getElem? (i := 159) (by decide +kernel)) rfl
theorem wdt1_161 : Cond.laysFinal "ReportCauses" "ReportCauses" "found" "LReportCauses$Findings;" ∈ ALLW := wt1 (List.mem_of_getElem? (i := 161) (by decide +kernel)) rfl
theorem wdt1_163 : Cond.laysFinal "ReportCauses" "ReportCauses" "told" "Ljava/lang/StringBuilder;" ∈ ALLW := wt1 (List.mem_of_getElem? (i := 163) (by decide +kernel)) rfl
theorem wdt1_165 : Cond.lays "ReportCauses" "ReportCauses" "coveredSet" "I" ∈ ALLW := wt1 (List.mem_of_getElem? (i := 165) (by decide +kernel)) rfl
theorem wdt1_167 : Cond.lays "ReportCauses" "ReportCauses" "allowedTries" "I" ∈ ALLW := wt1 (List.mem_of_getElem? (i := 167) (by decide +kernel)) rfl
theorem wdt1_169 : Cond.lays "ReportCauses" "ReportCauses" "latestTried" "I" ∈ ALLW := wt1 (List.mem_of_getElem? (i := 169) (by decide +kernel)) rfl
theorem wdt1_171 : Cond.lays "ReportCauses" "ReportCauses" "latestSettled" "Z" ∈ ALLW := wt1 (List.mem_of_getElem? (i := 171) (by decide +kernel)) rfl
theorem wdt1_36 : Cond.laysFinal "ReportCauses$Triples" "ReportCauses$Triples" "objects" "[I" ∈ ALLW := wt1 (List.mem_of_getElem? (i := 36) (by decide +kernel)) rfl
theorem wdt1_38 : Cond.laysFinal "ReportCauses$Triples" "ReportCauses$Triples" "members" "[I" ∈ ALLW := wt1 (List.mem_of_getElem? (i := 38) (by decide +kernel)) rfl
theorem wdt1_40 : Cond.laysFinal "ReportCauses$Triples" "ReportCauses$Triples" "within" "[I" ∈ ALLW := wt1 (List.mem_of_getElem? (i := 40) (by decide +kernel)) rfl
theorem wdt1_42 : Cond.lays "ReportCauses$Triples" "ReportCauses$Triples" "isSorted" "Z" ∈ ALLW := wt1 (List.mem_of_getElem? (i := 42) (by decide +kernel)) rfl
theorem wdt1_62 : Cond.laysFinal "ReportCauses$Rules" "ReportCauses$Rules" "kind" "[I" ∈ ALLW := wt1 (List.mem_of_getElem? (i := 62) (by decide +kernel)) rfl
theorem wdt1_64 : Cond.laysFinal "ReportCauses$Rules" "ReportCauses$Rules" "target" "[I" ∈ ALLW := wt1 (List.mem_of_getElem? (i := 64) (by decide +kernel)) rfl
theorem wdt1_66 : Cond.laysFinal "ReportCauses$Rules" "ReportCauses$Rules" "predicate" "[I" ∈ ALLW := wt1 (List.mem_of_getElem? (i := 66) (by decide +kernel)) rfl
theorem wdt1_68 : Cond.laysFinal "ReportCauses$Rules" "ReportCauses$Rules" "number" "[I" ∈ ALLW := wt1 (List.mem_of_getElem? (i := 68) (by decide +kernel)) rfl
theorem wdt1_70 : Cond.lays "ReportCauses$Rules" "ReportCauses$Rules" "count" "I" ∈ ALLW := wt1 (List.mem_of_getElem? (i := 70) (by decide +kernel)) rfl
theorem wdt1_84 : Cond.laysFinal "ReportCauses$Changes" "ReportCauses$Changes" "puts" "[Z" ∈ ALLW := wt1 (List.mem_of_getElem? (i := 84) (by decide +kernel)) rfl
theorem wdt1_86 : Cond.laysFinal "ReportCauses$Changes" "ReportCauses$Changes" "code" "[I" ∈ ALLW := wt1 (List.mem_of_getElem? (i := 86) (by decide +kernel)) rfl
theorem wdt1_88 : Cond.laysFinal "ReportCauses$Changes" "ReportCauses$Changes" "weighs" "[I" ∈ ALLW := wt1 (List.mem_of_getElem? (i := 88) (by decide +kernel)) rfl
theorem wdt1_90 : Cond.lays "ReportCauses$Changes" "ReportCauses$Changes" "count" "I" ∈ ALLW := wt1 (List.mem_of_getElem? (i := 90) (by decide +kernel)) rfl
theorem wdt1_104 : Cond.laysFinal "ReportCauses$Findings" "ReportCauses$Findings" "sets" "[I" ∈ ALLW := wt1 (List.mem_of_getElem? (i := 104) (by decide +kernel)) rfl
theorem wdt1_106 : Cond.laysFinal "ReportCauses$Findings" "ReportCauses$Findings" "sums" "[I" ∈ ALLW := wt1 (List.mem_of_getElem? (i := 106) (by decide +kernel)) rfl
theorem wdt1_108 : Cond.lays "ReportCauses$Findings" "ReportCauses$Findings" "count" "I" ∈ ALLW := wt1 (List.mem_of_getElem? (i := 108) (by decide +kernel)) rfl
theorem wdt3_209 : Cond.laysFinal "ReportCausesModel" "ReportCausesModel" "there" "[Z" ∈ ALLW := wt3 (List.mem_of_getElem? (i := 209) (by decide +kernel)) rfl
theorem wdt3_211 : Cond.laysFinal "ReportCausesModel" "ReportCausesModel" "now" "[Z" ∈ ALLW := wt3 (List.mem_of_getElem? (i := 211) (by decide +kernel)) rfl
theorem wdt3_213 : Cond.lays "ReportCausesModel" "ReportCausesModel" "rules" "I" ∈ ALLW := wt3 (List.mem_of_getElem? (i := 213) (by decide +kernel)) rfl
theorem wdt3_215 : Cond.laysFinal "ReportCausesModel" "ReportCausesModel" "kinds" "[I" ∈ ALLW := wt3 (List.mem_of_getElem? (i := 215) (by decide +kernel)) rfl
theorem wdt3_217 : Cond.laysFinal "ReportCausesModel" "ReportCausesModel" "targets" "[I" ∈ ALLW := wt3 (List.mem_of_getElem? (i := 217) (by decide +kernel)) rfl
theorem wdt3_219 : Cond.laysFinal "ReportCausesModel" "ReportCausesModel" "predicates" "[I" ∈ ALLW := wt3 (List.mem_of_getElem? (i := 219) (by decide +kernel)) rfl
theorem wdt3_221 : Cond.laysFinal "ReportCausesModel" "ReportCausesModel" "numbers" "[I" ∈ ALLW := wt3 (List.mem_of_getElem? (i := 221) (by decide +kernel)) rfl
theorem wdt3_223 : Cond.lays "ReportCausesModel" "ReportCausesModel" "changes" "I" ∈ ALLW := wt3 (List.mem_of_getElem? (i := 223) (by decide +kernel)) rfl
theorem wdt3_225 : Cond.laysFinal "ReportCausesModel" "ReportCausesModel" "puts" "[Z" ∈ ALLW := wt3 (List.mem_of_getElem? (i := 225) (by decide +kernel)) rfl
theorem wdt3_227 : Cond.laysFinal "ReportCausesModel" "ReportCausesModel" "codes" "[I" ∈ ALLW := wt3 (List.mem_of_getElem? (i := 227) (by decide +kernel)) rfl
theorem wdt3_229 : Cond.laysFinal "ReportCausesModel" "ReportCausesModel" "weights" "[I" ∈ ALLW := wt3 (List.mem_of_getElem? (i := 229) (by decide +kernel)) rfl
theorem wdt3_231 : Cond.lays "ReportCausesModel" "ReportCausesModel" "mostTries" "I" ∈ ALLW := wt3 (List.mem_of_getElem? (i := 231) (by decide +kernel)) rfl
theorem wdt3_233 : Cond.lays "ReportCausesModel" "ReportCausesModel" "tried" "I" ∈ ALLW := wt3 (List.mem_of_getElem? (i := 233) (by decide +kernel)) rfl
theorem wdt3_235 : Cond.lays "ReportCausesModel" "ReportCausesModel" "settled" "Z" ∈ ALLW := wt3 (List.mem_of_getElem? (i := 235) (by decide +kernel)) rfl
theorem wdt3_237 : Cond.lays "ReportCausesModel" "ReportCausesModel" "found" "I" ∈ ALLW := wt3 (List.mem_of_getElem? (i := 237) (by decide +kernel)) rfl
theorem wdt3_239 : Cond.laysFinal "ReportCausesModel" "ReportCausesModel" "sets" "[I" ∈ ALLW := wt3 (List.mem_of_getElem? (i := 239) (by decide +kernel)) rfl
theorem wdt4_1 : Cond.lays "ReportCausesModel" "ReportCausesModel" "isCovered" "Z" ∈ ALLW := wt4 (List.mem_of_getElem? (i := 1) (by decide +kernel)) rfl
theorem wdt4_3 : Cond.lays "ReportCausesModel" "ReportCausesModel" "covered" "I" ∈ ALLW := wt4 (List.mem_of_getElem? (i := 3) (by decide +kernel)) rfl
theorem wdt4_5 : Cond.laysFinal "ReportCausesModel" "ReportCausesModel" "picks" "[I" ∈ ALLW := wt4 (List.mem_of_getElem? (i := 5) (by decide +kernel)) rfl
theorem wdt4_7 : Cond.laysFinal "ReportCausesModel" "ReportCausesModel" "classes" "[Z" ∈ ALLW := wt4 (List.mem_of_getElem? (i := 7) (by decide +kernel)) rfl
theorem wdt4_9 : Cond.laysFinal "ReportCausesModel" "ReportCausesModel" "steps" "[I" ∈ ALLW := wt4 (List.mem_of_getElem? (i := 9) (by decide +kernel)) rfl
theorem wdt4_11 : Cond.laysFinal "ReportCausesModel" "ReportCausesModel" "told" "[I" ∈ ALLW := wt4 (List.mem_of_getElem? (i := 11) (by decide +kernel)) rfl
theorem wdt4_13 : Cond.lays "ReportCausesModel" "ReportCausesModel" "toldMany" "I" ∈ ALLW := wt4 (List.mem_of_getElem? (i := 13) (by decide +kernel)) rfl
theorem wdt1_133 : Cond.lays "java/lang/StringBuilder" "java/lang/AbstractStringBuilder" "value" "[B" ∈ ALLW := wt1 (List.mem_of_getElem? (i := 133) (by decide +kernel)) rfl
theorem wdt1_135 : Cond.lays "java/lang/StringBuilder" "java/lang/AbstractStringBuilder" "coder" "B" ∈ ALLW := wt1 (List.mem_of_getElem? (i := 135) (by decide +kernel)) rfl
theorem wdt1_137 : Cond.lays "java/lang/StringBuilder" "java/lang/AbstractStringBuilder" "maybeLatin1" "Z" ∈ ALLW := wt1 (List.mem_of_getElem? (i := 137) (by decide +kernel)) rfl
theorem wdt1_139 : Cond.lays "java/lang/StringBuilder" "java/lang/AbstractStringBuilder" "count" "I" ∈ ALLW := wt1 (List.mem_of_getElem? (i := 139) (by decide +kernel)) rfl
theorem wdt1_30 : Cond.code yK1_init cK1_init 1 none ∈ ALLW := wt1 (List.mem_of_getElem? (i := 30) rfl) rfl
theorem wdt1_50 : Cond.code yK2_init cK2_init 1 none ∈ ALLW := wt1 (List.mem_of_getElem? (i := 50) rfl) rfl
theorem wdt1_77 : Cond.code yK3_init cK3_init 1 none ∈ ALLW := wt1 (List.mem_of_getElem? (i := 77) rfl) rfl
theorem wdt1_98 : Cond.code yK4_init cK4_init 1 none ∈ ALLW := wt1 (List.mem_of_getElem? (i := 98) rfl) rfl
theorem wdt1_187 : Cond.code yK0_isNode cK0_isNode 1 (some .boolean) ∈ ALLW := wt1 (List.mem_of_getElem? (i := 187) rfl) rfl
theorem wdt1_190 : Cond.code yK0_isPredicate cK0_isPredicate 1 (some .boolean) ∈ ALLW := wt1 (List.mem_of_getElem? (i := 190) rfl) rfl
theorem wdt1_184 : Cond.code yK0_isTriple cK0_isTriple 3 (some .boolean) ∈ ALLW := wt1 (List.mem_of_getElem? (i := 184) rfl) rfl
theorem wdt1_198 : Cond.code yK1_objectsOf cK1_objectsOf 3 (some .int) ∈ ALLW := wt1 (List.mem_of_getElem? (i := 198) rfl) rfl
theorem wdt1_201 : Cond.code yK0_hasMember cK0_hasMember 2 (some .boolean) ∈ ALLW := wt1 (List.mem_of_getElem? (i := 201) rfl) rfl
theorem wdt1_194 : Cond.code yK1_has cK1_has 4 (some .boolean) ∈ ALLW := wt1 (List.mem_of_getElem? (i := 194) rfl) rfl
theorem wdt1_204 : Cond.code yK0_codeOf cK0_codeOf 3 (some .int) ∈ ALLW := wt1 (List.mem_of_getElem? (i := 204) rfl) rfl
theorem wdt1_208 : Cond.code yK1_alter cK1_alter 6 none ∈ ALLW := wt1 (List.mem_of_getElem? (i := 208) rfl) rfl
theorem wdt1_215 : Cond.code yJ6_fill_aIIV cJ6_fill_aIIV 4 none ∈ ALLW := wt1 (List.mem_of_getElem? (i := 215) rfl) rfl
theorem wdt1_225 : Cond.code yJ2_numberOfTrailingZeros cJ2_numberOfTrailingZeros 2 (some .int) ∈ ALLW := wt1 (List.mem_of_getElem? (i := 225) rfl) rfl
theorem wdt1_222 : Cond.code yK1_least cK1_least 1 (some .int) ∈ ALLW := wt1 (List.mem_of_getElem? (i := 222) rfl) rfl
theorem wdt1_219 : Cond.code yK1_classesOf cK1_classesOf 6 (some .int) ∈ ALLW := wt1 (List.mem_of_getElem? (i := 219) rfl) rfl
theorem wdt1_212 : Cond.code yK1_sortIntoClasses cK1_sortIntoClasses 4 none ∈ ALLW := wt1 (List.mem_of_getElem? (i := 212) rfl) rfl
theorem wdt1_181 : Cond.code yK0_putOrTake cK0_putOrTake 5 (some .int) ∈ ALLW := wt1 (List.mem_of_getElem? (i := 181) rfl) rfl
theorem wdt1_177 : Cond.code yK0_triple cK0_triple 4 (some .int) ∈ ALLW := wt1 (List.mem_of_getElem? (i := 177) rfl) rfl
theorem wdt1_233 : Cond.code yK0_drop cK0_drop 4 (some .int) ∈ ALLW := wt1 (List.mem_of_getElem? (i := 233) rfl) rfl
theorem wdt2_0 : Cond.code yK0_fitsKind cK0_fitsKind 2 (some .boolean) ∈ ALLW := wt2 (List.mem_of_getElem? (i := 0) rfl) rfl
theorem wdt2_4 : Cond.code yK2_add cK2_add 5 (some .int) ∈ ALLW := wt2 (List.mem_of_getElem? (i := 4) rfl) rfl
theorem wdt1_237 : Cond.code yK0_rule cK0_rule 5 (some .int) ∈ ALLW := wt1 (List.mem_of_getElem? (i := 237) rfl) rfl
theorem wdt2_16 : Cond.code yK1_membersOf cK1_membersOf 2 (some .int) ∈ ALLW := wt2 (List.mem_of_getElem? (i := 16) rfl) rfl
theorem wdt2_25 : Cond.code yJ2_bitCount cJ2_bitCount 1 (some .int) ∈ ALLW := wt2 (List.mem_of_getElem? (i := 25) rfl) rfl
theorem wdt2_21 : Cond.code yK2_holds cK2_holds 6 (some .boolean) ∈ ALLW := wt2 (List.mem_of_getElem? (i := 21) rfl) rfl
theorem wdt2_12 : Cond.code yK2_failing cK2_failing 6 (some .int) ∈ ALLW := wt2 (List.mem_of_getElem? (i := 12) rfl) rfl
theorem wdt2_8 : Cond.code yK0_results cK0_results 3 (some .int) ∈ ALLW := wt2 (List.mem_of_getElem? (i := 8) rfl) rfl
theorem wdt2_40 : Cond.code yK0_nthMember cK0_nthMember 4 (some .int) ∈ ALLW := wt2 (List.mem_of_getElem? (i := 40) rfl) rfl
theorem wdt2_37 : Cond.code yK0_nthResult cK0_nthResult 7 (some .int) ∈ ALLW := wt2 (List.mem_of_getElem? (i := 37) rfl) rfl
theorem wdt2_33 : Cond.code yK0_result cK0_result 2 (some .int) ∈ ALLW := wt2 (List.mem_of_getElem? (i := 33) rfl) rfl
theorem wdt2_49 : Cond.code yK1_isMember cK1_isMember 3 (some .boolean) ∈ ALLW := wt2 (List.mem_of_getElem? (i := 49) rfl) rfl
theorem wdt2_45 : Cond.code yK0_isOf cK0_isOf 3 (some .int) ∈ ALLW := wt2 (List.mem_of_getElem? (i := 45) rfl) rfl
theorem wdt2_65 : Cond.code yK1_leadingInto cK1_leadingInto 4 (some .int) ∈ ALLW := wt2 (List.mem_of_getElem? (i := 65) rfl) rfl
theorem wdt2_61 : Cond.code yK1_fewestBelows cK1_fewestBelows 6 (some .int) ∈ ALLW := wt2 (List.mem_of_getElem? (i := 61) rfl) rfl
theorem wdt2_57 : Cond.code yK1_nthOfReason cK1_nthOfReason 9 (some .int) ∈ ALLW := wt2 (List.mem_of_getElem? (i := 57) rfl) rfl
theorem wdt2_53 : Cond.code yK0_reason cK0_reason 4 (some .int) ∈ ALLW := wt2 (List.mem_of_getElem? (i := 53) rfl) rfl
theorem wdt2_74 : Cond.code yK3_add cK3_add 5 (some .int) ∈ ALLW := wt2 (List.mem_of_getElem? (i := 74) rfl) rfl
theorem wdt2_70 : Cond.code yK0_change cK0_change 6 (some .int) ∈ ALLW := wt2 (List.mem_of_getElem? (i := 70) rfl) rfl
theorem wdt2_82 : Cond.code yK2_has cK2_has 2 (some .boolean) ∈ ALLW := wt2 (List.mem_of_getElem? (i := 82) rfl) rfl
theorem wdt2_86 : Cond.code yK2_fails cK2_fails 4 (some .boolean) ∈ ALLW := wt2 (List.mem_of_getElem? (i := 86) rfl) rfl
theorem wdt2_91 : Cond.code yK0_offer cK0_offer 5 none ∈ ALLW := wt2 (List.mem_of_getElem? (i := 91) rfl) rfl
theorem wdt2_95 : Cond.code yK0_offerAbout cK0_offerAbout 7 none ∈ ALLW := wt2 (List.mem_of_getElem? (i := 95) rfl) rfl
theorem wdt2_78 : Cond.code yK0_suggest cK0_suggest 6 (some .int) ∈ ALLW := wt2 (List.mem_of_getElem? (i := 78) rfl) rfl
theorem wdt2_103 : Cond.code yK3_forget cK3_forget 1 none ∈ ALLW := wt2 (List.mem_of_getElem? (i := 103) rfl) rfl
theorem wdt2_107 : Cond.code yK4_forget cK4_forget 1 none ∈ ALLW := wt2 (List.mem_of_getElem? (i := 107) rfl) rfl
theorem wdt2_99 : Cond.code yK0_clear cK0_clear 2 (some .int) ∈ ALLW := wt2 (List.mem_of_getElem? (i := 99) rfl) rfl
theorem wdt2_111 : Cond.code yK0_tries cK0_tries 2 (some .int) ∈ ALLW := wt2 (List.mem_of_getElem? (i := 111) rfl) rfl
theorem wdt2_126 : Cond.code yJ2_numberOfLeadingZeros cJ2_numberOfLeadingZeros 2 (some .int) ∈ ALLW := wt2 (List.mem_of_getElem? (i := 126) rfl) rfl
theorem wdt2_123 : Cond.code yK0_nextSet cK0_nextSet 7 (some .int) ∈ ALLW := wt2 (List.mem_of_getElem? (i := 123) rfl) rfl
theorem wdt2_130 : Cond.code yK4_hasPartOf cK4_hasPartOf 3 (some .boolean) ∈ ALLW := wt2 (List.mem_of_getElem? (i := 130) rfl) rfl
theorem wdt2_138 : Cond.code yK1_copyFrom cK1_copyFrom 2 none ∈ ALLW := wt2 (List.mem_of_getElem? (i := 138) rfl) rfl
theorem wdt2_145 : Cond.code yK3_doAll cK3_doAll 4 none ∈ ALLW := wt2 (List.mem_of_getElem? (i := 145) rfl) rfl
theorem wdt2_134 : Cond.code yK0_tryOut cK0_tryOut 2 none ∈ ALLW := wt2 (List.mem_of_getElem? (i := 134) rfl) rfl
theorem wdt2_151 : Cond.code yK3_weightOf cK3_weightOf 4 (some .int) ∈ ALLW := wt2 (List.mem_of_getElem? (i := 151) rfl) rfl
theorem wdt2_155 : Cond.code yK4_add cK4_add 4 none ∈ ALLW := wt2 (List.mem_of_getElem? (i := 155) rfl) rfl
theorem wdt2_120 : Cond.code yK0_findSets cK0_findSets 6 none ∈ ALLW := wt2 (List.mem_of_getElem? (i := 120) rfl) rfl
theorem wdt2_115 : Cond.code yK0_find cK0_find 4 (some .int) ∈ ALLW := wt2 (List.mem_of_getElem? (i := 115) rfl) rfl
theorem wdt2_159 : Cond.code yK0_settled cK0_settled 1 (some .boolean) ∈ ALLW := wt2 (List.mem_of_getElem? (i := 159) rfl) rfl
theorem wdt2_163 : Cond.code yK0_tried cK0_tried 1 (some .int) ∈ ALLW := wt2 (List.mem_of_getElem? (i := 163) rfl) rfl
theorem wdt2_171 : Cond.code yK4_at cK4_at 2 (some .int) ∈ ALLW := wt2 (List.mem_of_getElem? (i := 171) rfl) rfl
theorem wdt2_167 : Cond.code yK0_set cK0_set 3 (some .int) ∈ ALLW := wt2 (List.mem_of_getElem? (i := 167) rfl) rfl
theorem wdt2_175 : Cond.code yK0_weight cK0_weight 3 (some .int) ∈ ALLW := wt2 (List.mem_of_getElem? (i := 175) rfl) rfl
theorem wdt2_179 : Cond.code yK0_breaks cK0_breaks 4 (some .int) ∈ ALLW := wt2 (List.mem_of_getElem? (i := 179) rfl) rfl
theorem wdt2_183 : Cond.code yK0_apply cK0_apply 3 (some .int) ∈ ALLW := wt2 (List.mem_of_getElem? (i := 183) rfl) rfl
theorem wdt2_196 : Cond.code yK0_putsAllRight cK0_putsAllRight 3 (some .boolean) ∈ ALLW := wt2 (List.mem_of_getElem? (i := 196) rfl) rfl
theorem wdt2_192 : Cond.code yK0_lightestCover cK0_lightestCover 7 (some .int) ∈ ALLW := wt2 (List.mem_of_getElem? (i := 192) rfl) rfl
theorem wdt2_188 : Cond.code yK0_cover cK0_cover 3 (some .int) ∈ ALLW := wt2 (List.mem_of_getElem? (i := 188) rfl) rfl
theorem wdt2_200 : Cond.code yK0_covered cK0_covered 2 (some .int) ∈ ALLW := wt2 (List.mem_of_getElem? (i := 200) rfl) rfl
theorem wdt3_125 : Cond.code yJ2_stringSize cJ2_stringSize 4 (some .int) ∈ ALLW := wt3 (List.mem_of_getElem? (i := 125) rfl) rfl
theorem wdt3_150 : Cond.code yJ4_canEncode cJ4_canEncode 1 (some .boolean) ∈ ALLW := wt3 (List.mem_of_getElem? (i := 150) rfl) rfl
theorem wdt3_184 : Cond.code yK5_init cK5_init 1 none ∈ ALLW := wt3 (List.mem_of_getElem? (i := 184) rfl) rfl
theorem wdt4_25 : Cond.code yK5_in cK5_in 3 (some .boolean) ∈ ALLW := wt4 (List.mem_of_getElem? (i := 25) rfl) rfl
theorem wdt4_22 : Cond.code yK5_isTriple cK5_isTriple 3 (some .boolean) ∈ ALLW := wt4 (List.mem_of_getElem? (i := 22) rfl) rfl
theorem wdt4_28 : Cond.code yK5_codeOf cK5_codeOf 3 (some .int) ∈ ALLW := wt4 (List.mem_of_getElem? (i := 28) rfl) rfl
theorem wdt4_19 : Cond.code yK5_triple cK5_triple 5 (some .int) ∈ ALLW := wt4 (List.mem_of_getElem? (i := 19) rfl) rfl
theorem wdt4_32 : Cond.code yK5_drop cK5_drop 5 (some .int) ∈ ALLW := wt4 (List.mem_of_getElem? (i := 32) rfl) rfl
theorem wdt4_36 : Cond.code yK5_rule cK5_rule 6 (some .int) ∈ ALLW := wt4 (List.mem_of_getElem? (i := 36) rfl) rfl
theorem wdt4_44 : Cond.code yK5_begin cK5_begin 3 none ∈ ALLW := wt4 (List.mem_of_getElem? (i := 44) rfl) rfl
theorem wdt4_56 : Cond.code yK5_isOfNow cK5_isOfNow 6 (some .boolean) ∈ ALLW := wt4 (List.mem_of_getElem? (i := 56) rfl) rfl
theorem wdt4_60 : Cond.code yK5_holds cK5_holds 9 (some .boolean) ∈ ALLW := wt4 (List.mem_of_getElem? (i := 60) rfl) rfl
theorem wdt4_52 : Cond.code yK5_isResult cK5_isResult 3 (some .boolean) ∈ ALLW := wt4 (List.mem_of_getElem? (i := 52) rfl) rfl
theorem wdt4_48 : Cond.code yK5_resultsNow cK5_resultsNow 4 (some .int) ∈ ALLW := wt4 (List.mem_of_getElem? (i := 48) rfl) rfl
theorem wdt4_40 : Cond.code yK5_results cK5_results 1 (some .int) ∈ ALLW := wt4 (List.mem_of_getElem? (i := 40) rfl) rfl
theorem wdt4_64 : Cond.code yK5_result cK5_result 5 (some .int) ∈ ALLW := wt4 (List.mem_of_getElem? (i := 64) rfl) rfl
theorem wdt4_68 : Cond.code yK5_isOf cK5_isOf 3 (some .int) ∈ ALLW := wt4 (List.mem_of_getElem? (i := 68) rfl) rfl
theorem wdt4_76 : Cond.code yK5_measure cK5_measure 5 none ∈ ALLW := wt4 (List.mem_of_getElem? (i := 76) rfl) rfl
theorem wdt4_72 : Cond.code yK5_reason cK5_reason 9 (some .int) ∈ ALLW := wt4 (List.mem_of_getElem? (i := 72) rfl) rfl
theorem wdt4_84 : Cond.code yK5_isThere cK5_isThere 5 (some .boolean) ∈ ALLW := wt4 (List.mem_of_getElem? (i := 84) rfl) rfl
theorem wdt4_88 : Cond.code yK5_enter cK5_enter 4 none ∈ ALLW := wt4 (List.mem_of_getElem? (i := 88) rfl) rfl
theorem wdt4_80 : Cond.code yK5_change cK5_change 6 (some .int) ∈ ALLW := wt4 (List.mem_of_getElem? (i := 80) rfl) rfl
theorem wdt4_96 : Cond.code yK5_isPair cK5_isPair 3 (some .boolean) ∈ ALLW := wt4 (List.mem_of_getElem? (i := 96) rfl) rfl
theorem wdt4_100 : Cond.code yK5_offer cK5_offer 3 none ∈ ALLW := wt4 (List.mem_of_getElem? (i := 100) rfl) rfl
theorem wdt4_92 : Cond.code yK5_suggest cK5_suggest 9 (some .int) ∈ ALLW := wt4 (List.mem_of_getElem? (i := 92) rfl) rfl
theorem wdt4_104 : Cond.code yK5_clear cK5_clear 2 (some .int) ∈ ALLW := wt4 (List.mem_of_getElem? (i := 104) rfl) rfl
theorem wdt4_108 : Cond.code yK5_tries cK5_tries 2 (some .int) ∈ ALLW := wt4 (List.mem_of_getElem? (i := 108) rfl) rfl
theorem wdt4_116 : Cond.code yK5_first cK5_first 3 none ∈ ALLW := wt4 (List.mem_of_getElem? (i := 116) rfl) rfl
theorem wdt4_120 : Cond.code yK5_setOf cK5_setOf 4 (some .int) ∈ ALLW := wt4 (List.mem_of_getElem? (i := 120) rfl) rfl
theorem wdt4_124 : Cond.code yK5_hasOneWithin cK5_hasOneWithin 4 (some .boolean) ∈ ALLW := wt4 (List.mem_of_getElem? (i := 124) rfl) rfl
theorem wdt4_128 : Cond.code yK5_look cK5_look 4 none ∈ ALLW := wt4 (List.mem_of_getElem? (i := 128) rfl) rfl
theorem wdt4_132 : Cond.code yK5_next cK5_next 4 (some .boolean) ∈ ALLW := wt4 (List.mem_of_getElem? (i := 132) rfl) rfl
theorem wdt4_140 : Cond.code yK5_weightOf cK5_weightOf 4 (some .int) ∈ ALLW := wt4 (List.mem_of_getElem? (i := 140) rfl) rfl
theorem wdt4_143 : Cond.code yK5_sizeOf cK5_sizeOf 3 (some .int) ∈ ALLW := wt4 (List.mem_of_getElem? (i := 143) rfl) rfl
theorem wdt4_136 : Cond.code yK5_sort cK5_sort 5 none ∈ ALLW := wt4 (List.mem_of_getElem? (i := 136) rfl) rfl
theorem wdt4_112 : Cond.code yK5_find cK5_find 7 (some .int) ∈ ALLW := wt4 (List.mem_of_getElem? (i := 112) rfl) rfl
theorem wdt4_151 : Cond.code yK5_weigh cK5_weigh 3 none ∈ ALLW := wt4 (List.mem_of_getElem? (i := 151) rfl) rfl
theorem wdt4_147 : Cond.code yK5_cover cK5_cover 4 (some .int) ∈ ALLW := wt4 (List.mem_of_getElem? (i := 147) rfl) rfl
theorem wdt4_155 : Cond.code yK5_settled cK5_settled 1 (some .boolean) ∈ ALLW := wt4 (List.mem_of_getElem? (i := 155) rfl) rfl
theorem wdt4_159 : Cond.code yK5_tried cK5_tried 1 (some .int) ∈ ALLW := wt4 (List.mem_of_getElem? (i := 159) rfl) rfl
theorem wdt4_167 : Cond.code yK5_isFound cK5_isFound 2 (some .boolean) ∈ ALLW := wt4 (List.mem_of_getElem? (i := 167) rfl) rfl
theorem wdt4_170 : Cond.code yK5_member cK5_member 4 (some .int) ∈ ALLW := wt4 (List.mem_of_getElem? (i := 170) rfl) rfl
theorem wdt4_163 : Cond.code yK5_set cK5_set 3 (some .int) ∈ ALLW := wt4 (List.mem_of_getElem? (i := 163) rfl) rfl
theorem wdt4_174 : Cond.code yK5_weight cK5_weight 2 (some .int) ∈ ALLW := wt4 (List.mem_of_getElem? (i := 174) rfl) rfl
theorem wdt4_178 : Cond.code yK5_breaks cK5_breaks 7 (some .int) ∈ ALLW := wt4 (List.mem_of_getElem? (i := 178) rfl) rfl
theorem wdt4_182 : Cond.code yK5_apply cK5_apply 3 (some .int) ∈ ALLW := wt4 (List.mem_of_getElem? (i := 182) rfl) rfl
theorem wdt4_186 : Cond.code yK5_covered cK5_covered 2 (some .int) ∈ ALLW := wt4 (List.mem_of_getElem? (i := 186) rfl) rfl
theorem wdt4_194 : Cond.code yK5_tell cK5_tell 2 none ∈ ALLW := wt4 (List.mem_of_getElem? (i := 194) rfl) rfl
theorem wdt4_198 : Cond.code yK5_tellNumber cK5_tellNumber 2 none ∈ ALLW := wt4 (List.mem_of_getElem? (i := 198) rfl) rfl
theorem wdt4_190 : Cond.code yK5_sentence cK5_sentence 3 (some .int) ∈ ALLW := wt4 (List.mem_of_getElem? (i := 190) rfl) rfl
theorem wdt4_202 : Cond.code yK5_letter cK5_letter 2 (some .int) ∈ ALLW := wt4 (List.mem_of_getElem? (i := 202) rfl) rfl
theorem inK0 : ∀ w ∈ u_ws RK0 TK0 10, w ∈ ALLW := by
  intro w h
  have h : w ∈ ([Cond.laysFinal "ReportCauses" "ReportCauses" "triples" "LReportCauses$Triples;", Cond.laysFinal "ReportCauses" "ReportCauses" "trial" "LReportCauses$Triples;", Cond.laysFinal "ReportCauses" "ReportCauses" "rules" "LReportCauses$Rules;", Cond.laysFinal "ReportCauses" "ReportCauses" "changes" "LReportCauses$Changes;", Cond.laysFinal "ReportCauses" "ReportCauses" "found" "LReportCauses$Findings;", Cond.laysFinal "ReportCauses" "ReportCauses" "told" "Ljava/lang/StringBuilder;", Cond.lays "ReportCauses" "ReportCauses" "coveredSet" "I", Cond.lays "ReportCauses" "ReportCauses" "allowedTries" "I", Cond.lays "ReportCauses" "ReportCauses" "latestTried" "I", Cond.lays "ReportCauses" "ReportCauses" "latestSettled" "Z"] : List Cond) := h
  simp only [List.mem_cons, List.not_mem_nil, or_false] at h
  rcases h with rfl | rfl | rfl | rfl | rfl | rfl | rfl | rfl | rfl | rfl
  · exact wdt1_153
  · exact wdt1_155
  · exact wdt1_157
  · exact wdt1_159
  · exact wdt1_161
  · exact wdt1_163
  · exact wdt1_165
  · exact wdt1_167
  · exact wdt1_169
  · exact wdt1_171
theorem inK1 : ∀ w ∈ u_ws RK1 TK1 4, w ∈ ALLW := by
  intro w h
  have h : w ∈ ([Cond.laysFinal "ReportCauses$Triples" "ReportCauses$Triples" "objects" "[I", Cond.laysFinal "ReportCauses$Triples" "ReportCauses$Triples" "members" "[I", Cond.laysFinal "ReportCauses$Triples" "ReportCauses$Triples" "within" "[I", Cond.lays "ReportCauses$Triples" "ReportCauses$Triples" "isSorted" "Z"] : List Cond) := h
  simp only [List.mem_cons, List.not_mem_nil, or_false] at h
  rcases h with rfl | rfl | rfl | rfl
  · exact wdt1_36
  · exact wdt1_38
  · exact wdt1_40
  · exact wdt1_42
theorem inK2 : ∀ w ∈ u_ws RK2 TK2 5, w ∈ ALLW := by
  intro w h
  have h : w ∈ ([Cond.laysFinal "ReportCauses$Rules" "ReportCauses$Rules" "kind" "[I", Cond.laysFinal "ReportCauses$Rules" "ReportCauses$Rules" "target" "[I", Cond.laysFinal "ReportCauses$Rules" "ReportCauses$Rules" "predicate" "[I", Cond.laysFinal "ReportCauses$Rules" "ReportCauses$Rules" "number" "[I", Cond.lays "ReportCauses$Rules" "ReportCauses$Rules" "count" "I"] : List Cond) := h
  simp only [List.mem_cons, List.not_mem_nil, or_false] at h
  rcases h with rfl | rfl | rfl | rfl | rfl
  · exact wdt1_62
  · exact wdt1_64
  · exact wdt1_66
  · exact wdt1_68
  · exact wdt1_70
theorem inK3 : ∀ w ∈ u_ws RK3 TK3 4, w ∈ ALLW := by
  intro w h
  have h : w ∈ ([Cond.laysFinal "ReportCauses$Changes" "ReportCauses$Changes" "puts" "[Z", Cond.laysFinal "ReportCauses$Changes" "ReportCauses$Changes" "code" "[I", Cond.laysFinal "ReportCauses$Changes" "ReportCauses$Changes" "weighs" "[I", Cond.lays "ReportCauses$Changes" "ReportCauses$Changes" "count" "I"] : List Cond) := h
  simp only [List.mem_cons, List.not_mem_nil, or_false] at h
  rcases h with rfl | rfl | rfl | rfl
  · exact wdt1_84
  · exact wdt1_86
  · exact wdt1_88
  · exact wdt1_90
theorem inK4 : ∀ w ∈ u_ws RK4 TK4 3, w ∈ ALLW := by
  intro w h
  have h : w ∈ ([Cond.laysFinal "ReportCauses$Findings" "ReportCauses$Findings" "sets" "[I", Cond.laysFinal "ReportCauses$Findings" "ReportCauses$Findings" "sums" "[I", Cond.lays "ReportCauses$Findings" "ReportCauses$Findings" "count" "I"] : List Cond) := h
  simp only [List.mem_cons, List.not_mem_nil, or_false] at h
  rcases h with rfl | rfl | rfl
  · exact wdt1_104
  · exact wdt1_106
  · exact wdt1_108
theorem inK5 : ∀ w ∈ u_ws RK5 TK5 23, w ∈ ALLW := by
  intro w h
  have h : w ∈ ([Cond.laysFinal "ReportCausesModel" "ReportCausesModel" "there" "[Z", Cond.laysFinal "ReportCausesModel" "ReportCausesModel" "now" "[Z", Cond.lays "ReportCausesModel" "ReportCausesModel" "rules" "I", Cond.laysFinal "ReportCausesModel" "ReportCausesModel" "kinds" "[I", Cond.laysFinal "ReportCausesModel" "ReportCausesModel" "targets" "[I", Cond.laysFinal "ReportCausesModel" "ReportCausesModel" "predicates" "[I", Cond.laysFinal "ReportCausesModel" "ReportCausesModel" "numbers" "[I", Cond.lays "ReportCausesModel" "ReportCausesModel" "changes" "I", Cond.laysFinal "ReportCausesModel" "ReportCausesModel" "puts" "[Z", Cond.laysFinal "ReportCausesModel" "ReportCausesModel" "codes" "[I", Cond.laysFinal "ReportCausesModel" "ReportCausesModel" "weights" "[I", Cond.lays "ReportCausesModel" "ReportCausesModel" "mostTries" "I", Cond.lays "ReportCausesModel" "ReportCausesModel" "tried" "I", Cond.lays "ReportCausesModel" "ReportCausesModel" "settled" "Z", Cond.lays "ReportCausesModel" "ReportCausesModel" "found" "I", Cond.laysFinal "ReportCausesModel" "ReportCausesModel" "sets" "[I", Cond.lays "ReportCausesModel" "ReportCausesModel" "isCovered" "Z", Cond.lays "ReportCausesModel" "ReportCausesModel" "covered" "I", Cond.laysFinal "ReportCausesModel" "ReportCausesModel" "picks" "[I", Cond.laysFinal "ReportCausesModel" "ReportCausesModel" "classes" "[Z", Cond.laysFinal "ReportCausesModel" "ReportCausesModel" "steps" "[I", Cond.laysFinal "ReportCausesModel" "ReportCausesModel" "told" "[I", Cond.lays "ReportCausesModel" "ReportCausesModel" "toldMany" "I"] : List Cond) := h
  simp only [List.mem_cons, List.not_mem_nil, or_false] at h
  rcases h with rfl | rfl | rfl | rfl | rfl | rfl | rfl | rfl | rfl | rfl | rfl | rfl | rfl | rfl | rfl | rfl | rfl | rfl | rfl | rfl | rfl | rfl | rfl
  · exact wdt3_209
  · exact wdt3_211
  · exact wdt3_213
  · exact wdt3_215
  · exact wdt3_217
  · exact wdt3_219
  · exact wdt3_221
  · exact wdt3_223
  · exact wdt3_225
  · exact wdt3_227
  · exact wdt3_229
  · exact wdt3_231
  · exact wdt3_233
  · exact wdt3_235
  · exact wdt3_237
  · exact wdt3_239
  · exact wdt4_1
  · exact wdt4_3
  · exact wdt4_5
  · exact wdt4_7
  · exact wdt4_9
  · exact wdt4_11
  · exact wdt4_13
theorem inK6 : ∀ w ∈ u_ws RK6 TK6 4, w ∈ ALLW := by
  intro w h
  have h : w ∈ ([Cond.lays "java/lang/StringBuilder" "java/lang/AbstractStringBuilder" "value" "[B", Cond.lays "java/lang/StringBuilder" "java/lang/AbstractStringBuilder" "coder" "B", Cond.lays "java/lang/StringBuilder" "java/lang/AbstractStringBuilder" "maybeLatin1" "Z", Cond.lays "java/lang/StringBuilder" "java/lang/AbstractStringBuilder" "count" "I"] : List Cond) := h
  simp only [List.mem_cons, List.not_mem_nil, or_false] at h
  rcases h with rfl | rfl | rfl | rfl
  · exact wdt1_133
  · exact wdt1_135
  · exact wdt1_137
  · exact wdt1_139
