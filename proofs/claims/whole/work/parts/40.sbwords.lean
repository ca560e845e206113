theorem wdt3_52 : Cond.fieldLink "java/lang/String" 1053 "jdk/internal/util/Preconditions" "SIOOBE_FORMATTER" "Ljava/util/function/BiFunction;" ∈ ALLW := wt3 (List.mem_of_getElem? (i := 52) (by decide +kernel)) rfl
theorem wdt2_223 : Cond.methodLink "jdk/internal/util/ArraysSupport" 194 yJ9_max ∈ ALLW := wt2 (List.mem_of_getElem? (i := 223) (by decide +kernel)) rfl
theorem wdt2_224 : Cond.static yJ9_max ∈ ALLW := wt2 (List.mem_of_getElem? (i := 224) (by decide +kernel)) rfl
theorem wdt2_225 : Cond.code yJ9_max cJ9_max 2 (some .int) ∈ ALLW := wt2 (List.mem_of_getElem? (i := 225) rfl) rfl
theorem wdt1_120 : Cond.fieldLink "java/lang/AbstractStringBuilder" 18 "java/lang/String" "COMPACT_STRINGS" "Z" ∈ ALLW := wt1 (List.mem_of_getElem? (i := 120) (by decide +kernel)) rfl
theorem wdt1_130 : Cond.fieldLink "java/lang/AbstractStringBuilder" 22 "java/lang/AbstractStringBuilder" "coder" "B" ∈ ALLW := wt1 (List.mem_of_getElem? (i := 130) (by decide +kernel)) rfl
theorem wdt1_129 : Cond.fieldLink "java/lang/AbstractStringBuilder" 15 "java/lang/AbstractStringBuilder" "value" "[B" ∈ ALLW := wt1 (List.mem_of_getElem? (i := 129) (by decide +kernel)) rfl
theorem wdt2_220 : Cond.methodLink "java/lang/AbstractStringBuilder" 114 yJ7_newLength ∈ ALLW := wt2 (List.mem_of_getElem? (i := 220) (by decide +kernel)) rfl
theorem wdt2_221 : Cond.static yJ7_newLength ∈ ALLW := wt2 (List.mem_of_getElem? (i := 221) (by decide +kernel)) rfl
theorem wdt1_15 : Cond.initialized "jdk/internal/util/ArraysSupport" ∈ ALLW := wt1 (List.mem_of_getElem? (i := 15) (by decide +kernel)) rfl
theorem wdt2_230 : Cond.constant "java/lang/AbstractStringBuilder" 39 2147483647 ∈ ALLW := wt2 (List.mem_of_getElem? (i := 230) (by decide +kernel)) rfl
theorem wdt2_216 : Cond.methodLink "java/lang/AbstractStringBuilder" 104 yJ1_newCapacity ∈ ALLW := wt2 (List.mem_of_getElem? (i := 216) (by decide +kernel)) rfl
theorem wdt4_205 : Cond.sameMethod "java/lang/AbstractStringBuilder" "java/lang/AbstractStringBuilder" "newCapacity" "(I)I" ∈ ALLW := wt4 (List.mem_of_getElem? (i := 205) (by decide +kernel)) rfl
theorem wdt2_218 : Cond.instanceMethod yJ1_newCapacity ∈ ALLW := wt2 (List.mem_of_getElem? (i := 218) (by decide +kernel)) rfl
theorem wdt1_6 : Cond.initialized "java/lang/AbstractStringBuilder" ∈ ALLW := wt1 (List.mem_of_getElem? (i := 6) (by decide +kernel)) rfl
theorem wdt2_212 : Cond.methodLink "java/lang/AbstractStringBuilder" 100 yJ1_ensureCapacityInternal ∈ ALLW := wt2 (List.mem_of_getElem? (i := 212) (by decide +kernel)) rfl
theorem wdt4_204 : Cond.sameMethod "java/lang/AbstractStringBuilder" "java/lang/AbstractStringBuilder" "ensureCapacityInternal" "(I)V" ∈ ALLW := wt4 (List.mem_of_getElem? (i := 204) (by decide +kernel)) rfl
theorem wdt2_214 : Cond.instanceMethod yJ1_ensureCapacityInternal ∈ ALLW := wt2 (List.mem_of_getElem? (i := 214) (by decide +kernel)) rfl
theorem wdt1_132 : Cond.fieldLink "java/lang/AbstractStringBuilder" 79 "java/lang/AbstractStringBuilder" "count" "I" ∈ ALLW := wt1 (List.mem_of_getElem? (i := 132) (by decide +kernel)) rfl
theorem wdt1_131 : Cond.fieldLink "java/lang/AbstractStringBuilder" 73 "java/lang/AbstractStringBuilder" "maybeLatin1" "Z" ∈ ALLW := wt1 (List.mem_of_getElem? (i := 131) (by decide +kernel)) rfl
theorem wdt3_3 : Cond.methodLink "java/lang/AbstractStringBuilder" 83 yJ1_isLatin1 ∈ ALLW := wt3 (List.mem_of_getElem? (i := 3) (by decide +kernel)) rfl
theorem wdt3_5 : Cond.sameMethod "java/lang/AbstractStringBuilder" "java/lang/AbstractStringBuilder" "isLatin1" "()Z" ∈ ALLW := wt3 (List.mem_of_getElem? (i := 5) (by decide +kernel)) rfl
theorem wdt3_6 : Cond.selects "java/lang/StringBuilder" yJ1_isLatin1 yJ1_isLatin1 ∈ ALLW := wt3 (List.mem_of_getElem? (i := 6) (by decide +kernel)) rfl
theorem wdt3_4 : Cond.instanceMethod yJ1_isLatin1 ∈ ALLW := wt3 (List.mem_of_getElem? (i := 4) (by decide +kernel)) rfl
theorem wdt2_209 : Cond.methodLink "java/lang/StringBuilder" 333 yJ1_setLength ∈ ALLW := wt2 (List.mem_of_getElem? (i := 209) (by decide +kernel)) rfl
theorem wdt4_203 : Cond.sameMethod "java/lang/AbstractStringBuilder" "java/lang/AbstractStringBuilder" "setLength" "(I)V" ∈ ALLW := wt4 (List.mem_of_getElem? (i := 203) (by decide +kernel)) rfl
theorem wdt1_141 : Cond.superclass "java/lang/StringBuilder" "java/lang/AbstractStringBuilder" ∈ ALLW := wt1 (List.mem_of_getElem? (i := 141) (by decide +kernel)) rfl
theorem wdt2_210 : Cond.instanceMethod yJ1_setLength ∈ ALLW := wt2 (List.mem_of_getElem? (i := 210) (by decide +kernel)) rfl
theorem wdt3_25 : Cond.methodLink "java/lang/StringBuilder" 343 yJ1_length ∈ ALLW := wt3 (List.mem_of_getElem? (i := 25) (by decide +kernel)) rfl
theorem wdt4_206 : Cond.sameMethod "java/lang/AbstractStringBuilder" "java/lang/AbstractStringBuilder" "length" "()I" ∈ ALLW := wt4 (List.mem_of_getElem? (i := 206) (by decide +kernel)) rfl
theorem wdt3_26 : Cond.instanceMethod yJ1_length ∈ ALLW := wt3 (List.mem_of_getElem? (i := 26) (by decide +kernel)) rfl
theorem wdt3_160 : Cond.methodLink "java/lang/String" 1059 yJ8_checkIndex ∈ ALLW := wt3 (List.mem_of_getElem? (i := 160) (by decide +kernel)) rfl
theorem wdt3_161 : Cond.static yJ8_checkIndex ∈ ALLW := wt3 (List.mem_of_getElem? (i := 161) (by decide +kernel)) rfl
theorem wdt1_17 : Cond.initialized "jdk/internal/util/Preconditions" ∈ ALLW := wt1 (List.mem_of_getElem? (i := 17) (by decide +kernel)) rfl
theorem wdt3_175 : Cond.methodLink "java/lang/AbstractStringBuilder" 138 yJ9_min ∈ ALLW := wt3 (List.mem_of_getElem? (i := 175) (by decide +kernel)) rfl
theorem wdt3_176 : Cond.methodLink "java/lang/AbstractStringBuilder" 144 yJ3_checkIndex ∈ ALLW := wt3 (List.mem_of_getElem? (i := 176) (by decide +kernel)) rfl
theorem wdt3_158 : Cond.static yJ3_checkIndex ∈ ALLW := wt3 (List.mem_of_getElem? (i := 158) (by decide +kernel)) rfl
theorem wdt1_8 : Cond.initialized "java/lang/String" ∈ ALLW := wt1 (List.mem_of_getElem? (i := 8) (by decide +kernel)) rfl
theorem wdt3_172 : Cond.methodLink "java/lang/StringBuilder" 329 yJ1_charAt ∈ ALLW := wt3 (List.mem_of_getElem? (i := 172) (by decide +kernel)) rfl
theorem wdt4_214 : Cond.sameMethod "java/lang/AbstractStringBuilder" "java/lang/AbstractStringBuilder" "charAt" "(I)C" ∈ ALLW := wt4 (List.mem_of_getElem? (i := 214) (by decide +kernel)) rfl
theorem wdt3_173 : Cond.instanceMethod yJ1_charAt ∈ ALLW := wt3 (List.mem_of_getElem? (i := 173) (by decide +kernel)) rfl
theorem wdt3_74 : Cond.fieldLink "java/lang/String" 38 "java/lang/String" "COMPACT_STRINGS" "Z" ∈ ALLW := wt3 (List.mem_of_getElem? (i := 74) (by decide +kernel)) rfl
theorem wdt4_216 : Cond.fieldLink "java/lang/String" 15 "java/lang/String" "coder" "B" ∈ ALLW := wt4 (List.mem_of_getElem? (i := 216) (by decide +kernel)) rfl
theorem wdt4_215 : Cond.fieldLink "java/lang/String" 9 "java/lang/String" "value" "[B" ∈ ALLW := wt4 (List.mem_of_getElem? (i := 215) (by decide +kernel)) rfl
theorem wdt3_70 : Cond.methodLink "java/lang/String" 335 yJ3_coder ∈ ALLW := wt3 (List.mem_of_getElem? (i := 70) (by decide +kernel)) rfl
theorem wdt3_71 : Cond.instanceMethod yJ3_coder ∈ ALLW := wt3 (List.mem_of_getElem? (i := 71) (by decide +kernel)) rfl
theorem wdt3_72 : Cond.selects "java/lang/String" yJ3_coder yJ3_coder ∈ ALLW := wt3 (List.mem_of_getElem? (i := 72) (by decide +kernel)) rfl
theorem wdt3_107 : Cond.methodLink "java/lang/String" 212 ⟨"java/lang/System", "arraycopy", "(Ljava/lang/Object;ILjava/lang/Object;II)V"⟩ ∈ ALLW := wt3 (List.mem_of_getElem? (i := 107) (by decide +kernel)) rfl
theorem wdt3_83 : Cond.methodLink "java/lang/AbstractStringBuilder" 40 yJ3_coder ∈ ALLW := wt3 (List.mem_of_getElem? (i := 83) (by decide +kernel)) rfl
theorem wdt3_79 : Cond.methodLink "java/lang/AbstractStringBuilder" 397 yJ1_inflateIfNeededFor ∈ ALLW := wt3 (List.mem_of_getElem? (i := 79) (by decide +kernel)) rfl
theorem wdt4_210 : Cond.sameMethod "java/lang/AbstractStringBuilder" "java/lang/AbstractStringBuilder" "inflateIfNeededFor" "(Ljava/lang/String;)V" ∈ ALLW := wt4 (List.mem_of_getElem? (i := 210) (by decide +kernel)) rfl
theorem wdt3_81 : Cond.instanceMethod yJ1_inflateIfNeededFor ∈ ALLW := wt3 (List.mem_of_getElem? (i := 81) (by decide +kernel)) rfl
theorem wdt3_103 : Cond.methodLink "java/lang/AbstractStringBuilder" 399 yJ3_getBytes ∈ ALLW := wt3 (List.mem_of_getElem? (i := 103) (by decide +kernel)) rfl
theorem wdt3_104 : Cond.instanceMethod yJ3_getBytes ∈ ALLW := wt3 (List.mem_of_getElem? (i := 104) (by decide +kernel)) rfl
theorem wdt3_105 : Cond.selects "java/lang/String" yJ3_getBytes yJ3_getBytes ∈ ALLW := wt3 (List.mem_of_getElem? (i := 105) (by decide +kernel)) rfl
theorem wdt3_129 : Cond.fieldLink "java/lang/Integer" 83 "java/lang/Integer" "DigitOnes" "[B" ∈ ALLW := wt3 (List.mem_of_getElem? (i := 129) (by decide +kernel)) rfl
theorem wdt3_131 : Cond.fieldLink "java/lang/Integer" 87 "java/lang/Integer" "DigitTens" "[B" ∈ ALLW := wt3 (List.mem_of_getElem? (i := 131) (by decide +kernel)) rfl
theorem wdt3_66 : Cond.methodLink "java/lang/AbstractStringBuilder" 32 yJ3_length ∈ ALLW := wt3 (List.mem_of_getElem? (i := 66) (by decide +kernel)) rfl
theorem wdt3_67 : Cond.instanceMethod yJ3_length ∈ ALLW := wt3 (List.mem_of_getElem? (i := 67) (by decide +kernel)) rfl
theorem wdt3_68 : Cond.selects "java/lang/String" yJ3_length yJ3_length ∈ ALLW := wt3 (List.mem_of_getElem? (i := 68) (by decide +kernel)) rfl
theorem wdt3_75 : Cond.methodLink "java/lang/AbstractStringBuilder" 208 yJ1_putStringAt ∈ ALLW := wt3 (List.mem_of_getElem? (i := 75) (by decide +kernel)) rfl
theorem wdt4_209 : Cond.sameMethod "java/lang/AbstractStringBuilder" "java/lang/AbstractStringBuilder" "putStringAt" "(ILjava/lang/String;)V" ∈ ALLW := wt4 (List.mem_of_getElem? (i := 209) (by decide +kernel)) rfl
theorem wdt3_77 : Cond.instanceMethod yJ1_putStringAt ∈ ALLW := wt3 (List.mem_of_getElem? (i := 77) (by decide +kernel)) rfl
theorem wdt3_33 : Cond.methodLink "java/lang/StringBuilder" 29 yJ1_append_LStringLAbstractStringBuilder ∈ ALLW := wt3 (List.mem_of_getElem? (i := 33) (by decide +kernel)) rfl
theorem wdt4_207 : Cond.sameMethod "java/lang/AbstractStringBuilder" "java/lang/AbstractStringBuilder" "append" "(Ljava/lang/String;)Ljava/lang/AbstractStringBuilder;" ∈ ALLW := wt4 (List.mem_of_getElem? (i := 207) (by decide +kernel)) rfl
theorem wdt3_34 : Cond.instanceMethod yJ1_append_LStringLAbstractStringBuilder ∈ ALLW := wt3 (List.mem_of_getElem? (i := 34) (by decide +kernel)) rfl
theorem wdt3_123 : Cond.methodLink "java/lang/AbstractStringBuilder" 245 yJ2_stringSize ∈ ALLW := wt3 (List.mem_of_getElem? (i := 123) (by decide +kernel)) rfl
theorem wdt3_124 : Cond.static yJ2_stringSize ∈ ALLW := wt3 (List.mem_of_getElem? (i := 124) (by decide +kernel)) rfl
theorem wdt3_126 : Cond.methodLink "java/lang/AbstractStringBuilder" 248 yJ2_getChars ∈ ALLW := wt3 (List.mem_of_getElem? (i := 126) (by decide +kernel)) rfl
theorem wdt3_127 : Cond.static yJ2_getChars ∈ ALLW := wt3 (List.mem_of_getElem? (i := 127) (by decide +kernel)) rfl
theorem wdt3_120 : Cond.methodLink "java/lang/StringBuilder" 53 yJ1_append_ILAbstractStringBuilder ∈ ALLW := wt3 (List.mem_of_getElem? (i := 120) (by decide +kernel)) rfl
theorem wdt4_212 : Cond.sameMethod "java/lang/AbstractStringBuilder" "java/lang/AbstractStringBuilder" "append" "(I)Ljava/lang/AbstractStringBuilder;" ∈ ALLW := wt4 (List.mem_of_getElem? (i := 212) (by decide +kernel)) rfl
theorem wdt3_121 : Cond.instanceMethod yJ1_append_ILAbstractStringBuilder ∈ ALLW := wt3 (List.mem_of_getElem? (i := 121) (by decide +kernel)) rfl
theorem wdt3_148 : Cond.methodLink "java/lang/AbstractStringBuilder" 191 yJ4_canEncode ∈ ALLW := wt3 (List.mem_of_getElem? (i := 148) (by decide +kernel)) rfl
theorem wdt3_149 : Cond.static yJ4_canEncode ∈ ALLW := wt3 (List.mem_of_getElem? (i := 149) (by decide +kernel)) rfl
theorem wdt1_16 : Cond.initialized "java/lang/StringLatin1" ∈ ALLW := wt1 (List.mem_of_getElem? (i := 16) (by decide +kernel)) rfl
theorem wdt3_145 : Cond.methodLink "java/lang/StringBuilder" 50 yJ1_append_CLAbstractStringBuilder ∈ ALLW := wt3 (List.mem_of_getElem? (i := 145) (by decide +kernel)) rfl
theorem wdt4_213 : Cond.sameMethod "java/lang/AbstractStringBuilder" "java/lang/AbstractStringBuilder" "append" "(C)Ljava/lang/AbstractStringBuilder;" ∈ ALLW := wt4 (List.mem_of_getElem? (i := 213) (by decide +kernel)) rfl
theorem wdt3_146 : Cond.instanceMethod yJ1_append_CLAbstractStringBuilder ∈ ALLW := wt3 (List.mem_of_getElem? (i := 146) (by decide +kernel)) rfl
theorem wdt3_115 : Cond.methodLink "ReportCauses$Changes" 40 yK6_append_LStringLStringBuilder ∈ ALLW := wt3 (List.mem_of_getElem? (i := 115) (by decide +kernel)) rfl
theorem wdt3_30 : Cond.instanceMethod yK6_append_LStringLStringBuilder ∈ ALLW := wt3 (List.mem_of_getElem? (i := 30) (by decide +kernel)) rfl
theorem wdt3_31 : Cond.selects "java/lang/StringBuilder" yK6_append_LStringLStringBuilder yK6_append_LStringLStringBuilder ∈ ALLW := wt3 (List.mem_of_getElem? (i := 31) (by decide +kernel)) rfl
theorem wdt1_7 : Cond.initialized "java/lang/StringBuilder" ∈ ALLW := wt1 (List.mem_of_getElem? (i := 7) (by decide +kernel)) rfl
theorem wdt3_116 : Cond.methodLink "ReportCauses$Changes" 46 yK6_append_ILStringBuilder ∈ ALLW := wt3 (List.mem_of_getElem? (i := 116) (by decide +kernel)) rfl
theorem wdt3_117 : Cond.instanceMethod yK6_append_ILStringBuilder ∈ ALLW := wt3 (List.mem_of_getElem? (i := 117) (by decide +kernel)) rfl
theorem wdt3_118 : Cond.selects "java/lang/StringBuilder" yK6_append_ILStringBuilder yK6_append_ILStringBuilder ∈ ALLW := wt3 (List.mem_of_getElem? (i := 118) (by decide +kernel)) rfl
theorem wdt3_141 : Cond.methodLink "ReportCauses$Changes" 49 yK6_append_CLStringBuilder ∈ ALLW := wt3 (List.mem_of_getElem? (i := 141) (by decide +kernel)) rfl
theorem wdt3_142 : Cond.instanceMethod yK6_append_CLStringBuilder ∈ ALLW := wt3 (List.mem_of_getElem? (i := 142) (by decide +kernel)) rfl
theorem wdt3_143 : Cond.selects "java/lang/StringBuilder" yK6_append_CLStringBuilder yK6_append_CLStringBuilder ∈ ALLW := wt3 (List.mem_of_getElem? (i := 143) (by decide +kernel)) rfl
theorem wdt1_148 : Cond.fieldLink "ReportCauses" 43 "ReportCauses" "told" "Ljava/lang/StringBuilder;" ∈ ALLW := wt1 (List.mem_of_getElem? (i := 148) (by decide +kernel)) rfl
theorem wdt2_205 : Cond.methodLink "ReportCauses" 177 yK6_setLength ∈ ALLW := wt2 (List.mem_of_getElem? (i := 205) (by decide +kernel)) rfl
theorem wdt2_206 : Cond.instanceMethod yK6_setLength ∈ ALLW := wt2 (List.mem_of_getElem? (i := 206) (by decide +kernel)) rfl
theorem wdt2_207 : Cond.selects "java/lang/StringBuilder" yK6_setLength yK6_setLength ∈ ALLW := wt2 (List.mem_of_getElem? (i := 207) (by decide +kernel)) rfl
theorem wdt3_163 : Cond.methodLink "ReportCauses" 196 yK6_append_CLStringBuilder ∈ ALLW := wt3 (List.mem_of_getElem? (i := 163) (by decide +kernel)) rfl
theorem wdt3_21 : Cond.methodLink "ReportCauses" 183 yK6_length ∈ ALLW := wt3 (List.mem_of_getElem? (i := 21) (by decide +kernel)) rfl
theorem wdt3_22 : Cond.instanceMethod yK6_length ∈ ALLW := wt3 (List.mem_of_getElem? (i := 22) (by decide +kernel)) rfl
theorem wdt3_23 : Cond.selects "java/lang/StringBuilder" yK6_length yK6_length ∈ ALLW := wt3 (List.mem_of_getElem? (i := 23) (by decide +kernel)) rfl
theorem wdt3_109 : Cond.methodLink "ReportCauses" 192 yK3_tell ∈ ALLW := wt3 (List.mem_of_getElem? (i := 109) (by decide +kernel)) rfl
theorem wdt3_110 : Cond.instanceMethod yK3_tell ∈ ALLW := wt3 (List.mem_of_getElem? (i := 110) (by decide +kernel)) rfl
theorem wdt3_111 : Cond.selects "ReportCauses$Changes" yK3_tell yK3_tell ∈ ALLW := wt3 (List.mem_of_getElem? (i := 111) (by decide +kernel)) rfl
theorem wdt3_29 : Cond.methodLink "ReportCauses" 188 yK6_append_LStringLStringBuilder ∈ ALLW := wt3 (List.mem_of_getElem? (i := 29) (by decide +kernel)) rfl
theorem wdt3_168 : Cond.methodLink "ReportCauses" 199 yK6_charAt ∈ ALLW := wt3 (List.mem_of_getElem? (i := 168) (by decide +kernel)) rfl
theorem wdt3_169 : Cond.instanceMethod yK6_charAt ∈ ALLW := wt3 (List.mem_of_getElem? (i := 169) (by decide +kernel)) rfl
theorem wdt3_170 : Cond.selects "java/lang/StringBuilder" yK6_charAt yK6_charAt ∈ ALLW := wt3 (List.mem_of_getElem? (i := 170) (by decide +kernel)) rfl
theorem wdt1_142 : Cond.arrayClass .byte ∈ ALLW := wt1 (List.mem_of_getElem? (i := 142) (by decide +kernel)) rfl
theorem wdt3_1 : Cond.methodLink "java/util/Arrays" 304 yJ9_min ∈ ALLW := wt3 (List.mem_of_getElem? (i := 1) (by decide +kernel)) rfl
theorem wdt3_2 : Cond.methodLink "java/util/Arrays" 150 ⟨"java/lang/System", "arraycopy", "(Ljava/lang/Object;ILjava/lang/Object;II)V"⟩ ∈ ALLW := wt3 (List.mem_of_getElem? (i := 2) (by decide +kernel)) rfl
theorem wdt2_231 : Cond.methodLink "java/lang/AbstractStringBuilder" 108 yJ6_copyOf ∈ ALLW := wt2 (List.mem_of_getElem? (i := 231) (by decide +kernel)) rfl
theorem wdt2_232 : Cond.static yJ6_copyOf ∈ ALLW := wt2 (List.mem_of_getElem? (i := 232) (by decide +kernel)) rfl
theorem wdt2_222 : Cond.code yJ7_newLength cJ7_newLength 4 (some .int) ∈ ALLW := wt2 (List.mem_of_getElem? (i := 222) rfl) rfl
theorem wdt3_7 : Cond.code yJ1_isLatin1 cJ1_isLatin1 1 (some .boolean) ∈ ALLW := wt3 (List.mem_of_getElem? (i := 7) rfl) rfl
theorem wdt2_219 : Cond.code yJ1_newCapacity cJ1_newCapacity 6 (some .int) ∈ ALLW := wt2 (List.mem_of_getElem? (i := 219) rfl) rfl
theorem wdt2_215 : Cond.code yJ1_ensureCapacityInternal cJ1_ensureCapacityInternal 3 none ∈ ALLW := wt2 (List.mem_of_getElem? (i := 215) rfl) rfl
theorem wdt2_211 : Cond.code yJ1_setLength cJ1_setLength 2 none ∈ ALLW := wt2 (List.mem_of_getElem? (i := 211) rfl) rfl
theorem wdt2_208 : Cond.code yK6_setLength cK6_setLength 2 none ∈ ALLW := wt2 (List.mem_of_getElem? (i := 208) rfl) rfl
theorem wdt3_27 : Cond.code yJ1_length cJ1_length 1 (some .int) ∈ ALLW := wt3 (List.mem_of_getElem? (i := 27) rfl) rfl
theorem wdt3_24 : Cond.code yK6_length cK6_length 1 (some .int) ∈ ALLW := wt3 (List.mem_of_getElem? (i := 24) rfl) rfl
theorem wdt3_162 : Cond.code yJ8_checkIndex cJ8_checkIndex 3 (some .int) ∈ ALLW := wt3 (List.mem_of_getElem? (i := 162) rfl) rfl
theorem wdt3_159 : Cond.code yJ3_checkIndex cJ3_checkIndex 2 none ∈ ALLW := wt3 (List.mem_of_getElem? (i := 159) rfl) rfl
theorem wdt3_174 : Cond.code yJ1_charAt cJ1_charAt 5 (some .char) ∈ ALLW := wt3 (List.mem_of_getElem? (i := 174) rfl) rfl
theorem wdt3_171 : Cond.code yK6_charAt cK6_charAt 2 (some .char) ∈ ALLW := wt3 (List.mem_of_getElem? (i := 171) rfl) rfl
theorem wdt3_73 : Cond.code yJ3_coder cJ3_coder 1 (some .byte) ∈ ALLW := wt3 (List.mem_of_getElem? (i := 73) rfl) rfl
theorem wdt3_69 : Cond.code yJ3_length cJ3_length 1 (some .int) ∈ ALLW := wt3 (List.mem_of_getElem? (i := 69) rfl) rfl
theorem wdt3_106 : Cond.code yJ3_getBytes cJ3_getBytes 4 none ∈ ALLW := wt3 (List.mem_of_getElem? (i := 106) rfl) rfl
theorem wdt3_82 : Cond.code yJ1_inflateIfNeededFor cJ1_inflateIfNeededFor 2 none ∈ ALLW := wt3 (List.mem_of_getElem? (i := 82) rfl) rfl
theorem wdt3_78 : Cond.code yJ1_putStringAt cJ1_putStringAt 3 none ∈ ALLW := wt3 (List.mem_of_getElem? (i := 78) rfl) rfl
theorem wdt3_128 : Cond.code yJ2_getChars cJ2_getChars 7 (some .int) ∈ ALLW := wt3 (List.mem_of_getElem? (i := 128) rfl) rfl
theorem wdt3_35 : Cond.code yJ1_append_LStringLAbstractStringBuilder cJ1_append_LStringLAbstractStringBuilder 3 (some (.object "java/lang/AbstractStringBuilder")) ∈ ALLW := wt3 (List.mem_of_getElem? (i := 35) rfl) rfl
theorem wdt3_32 : Cond.code yK6_append_LStringLStringBuilder cK6_append_LStringLStringBuilder 2 (some (.object "java/lang/StringBuilder")) ∈ ALLW := wt3 (List.mem_of_getElem? (i := 32) rfl) rfl
theorem wdt3_122 : Cond.code yJ1_append_ILAbstractStringBuilder cJ1_append_ILAbstractStringBuilder 4 (some (.object "java/lang/AbstractStringBuilder")) ∈ ALLW := wt3 (List.mem_of_getElem? (i := 122) rfl) rfl
theorem wdt3_119 : Cond.code yK6_append_ILStringBuilder cK6_append_ILStringBuilder 2 (some (.object "java/lang/StringBuilder")) ∈ ALLW := wt3 (List.mem_of_getElem? (i := 119) rfl) rfl
theorem wdt3_147 : Cond.code yJ1_append_CLAbstractStringBuilder cJ1_append_CLAbstractStringBuilder 2 (some (.object "java/lang/AbstractStringBuilder")) ∈ ALLW := wt3 (List.mem_of_getElem? (i := 147) rfl) rfl
theorem wdt3_144 : Cond.code yK6_append_CLStringBuilder cK6_append_CLStringBuilder 2 (some (.object "java/lang/StringBuilder")) ∈ ALLW := wt3 (List.mem_of_getElem? (i := 144) rfl) rfl
theorem wdt3_112 : Cond.code yK3_tell cK3_tell 3 none ∈ ALLW := wt3 (List.mem_of_getElem? (i := 112) rfl) rfl
theorem wdt2_204 : Cond.code yK0_sentence cK0_sentence 4 (some .int) ∈ ALLW := wt2 (List.mem_of_getElem? (i := 204) rfl) rfl
theorem wdt3_167 : Cond.code yK0_letter cK0_letter 2 (some .int) ∈ ALLW := wt3 (List.mem_of_getElem? (i := 167) rfl) rfl
theorem wdt2_233 : Cond.code yJ6_copyOf cJ6_copyOf 3 (some (.array .byte)) ∈ ALLW := wt2 (List.mem_of_getElem? (i := 233) rfl) rfl
