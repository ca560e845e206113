section
-- ===== PART A: goes FIRST, ahead of the names: the tables' words, and 'selects' of the private methods out of them =====
/-- a private method of a class that the tables say can be made, by its rows of tables_1 -/
def lw_okq (q : MethodName × Nat) : Prop := (q.1.cls ≠ "java/lang/invoke/MethodHandle" ∧ q.1.cls ≠ "java/lang/invoke/VarHandle") ∧ Cond.instantiable q.1.cls q.2 ∈ tables_1 ∧ Cond.privateMethod q.1 ∈ tables_1 ∧ Cond.instanceMethod q.1 ∈ tables_1
theorem lw_p0 : lw_okq (⟨"ReportCauses", "putOrTake", "(ZIII)I"⟩, 10) := ⟨⟨by decide +kernel, by decide +kernel⟩, List.mem_of_getElem? (i := 19) (by decide +kernel), List.mem_of_getElem? (i := 179) (by decide +kernel), List.mem_of_getElem? (i := 180) (by decide +kernel)⟩
theorem lw_p1 : lw_okq (⟨"ReportCauses$Triples", "classesOf", "(I)I"⟩, 4) := ⟨⟨by decide +kernel, by decide +kernel⟩, List.mem_of_getElem? (i := 27) (by decide +kernel), List.mem_of_getElem? (i := 217) (by decide +kernel), List.mem_of_getElem? (i := 218) (by decide +kernel)⟩
theorem lw_p2 : lw_okq (⟨"ReportCauses$Rules", "holds", "(LReportCauses$Triples;II)Z"⟩, 5) := ⟨⟨by decide +kernel, by decide +kernel⟩, List.mem_of_getElem? (i := 47) (by decide +kernel), List.mem_of_getElem? (i := 259) (by decide +kernel), List.mem_of_getElem? (i := 260) (by decide +kernel)⟩
theorem lw_p3 : lw_okq (⟨"ReportCauses", "nthResult", "(IZ)I"⟩, 10) := ⟨⟨by decide +kernel, by decide +kernel⟩, List.mem_of_getElem? (i := 19) (by decide +kernel), List.mem_of_getElem? (i := 275) (by decide +kernel), List.mem_of_getElem? (i := 276) (by decide +kernel)⟩
theorem lw_p4 : lw_okq (⟨"ReportCauses$Triples", "fewestBelows", "(II)I"⟩, 4) := ⟨⟨by decide +kernel, by decide +kernel⟩, List.mem_of_getElem? (i := 27) (by decide +kernel), List.mem_of_getElem? (i := 299) (by decide +kernel), List.mem_of_getElem? (i := 300) (by decide +kernel)⟩
theorem lw_p5 : lw_okq (⟨"ReportCauses$Triples", "leadingInto", "(I)I"⟩, 4) := ⟨⟨by decide +kernel, by decide +kernel⟩, List.mem_of_getElem? (i := 27) (by decide +kernel), List.mem_of_getElem? (i := 303) (by decide +kernel), List.mem_of_getElem? (i := 304) (by decide +kernel)⟩
theorem lw_p6 : lw_okq (⟨"ReportCauses", "offer", "(ZIII)V"⟩, 10) := ⟨⟨by decide +kernel, by decide +kernel⟩, List.mem_of_getElem? (i := 19) (by decide +kernel), List.mem_of_getElem? (i := 329) (by decide +kernel), List.mem_of_getElem? (i := 330) (by decide +kernel)⟩
theorem lw_p7 : lw_okq (⟨"ReportCauses", "offerAbout", "(III)V"⟩, 10) := ⟨⟨by decide +kernel, by decide +kernel⟩, List.mem_of_getElem? (i := 19) (by decide +kernel), List.mem_of_getElem? (i := 333) (by decide +kernel), List.mem_of_getElem? (i := 334) (by decide +kernel)⟩
theorem lw_p8 : lw_okq (⟨"ReportCauses", "findSets", "(III)V"⟩, 10) := ⟨⟨by decide +kernel, by decide +kernel⟩, List.mem_of_getElem? (i := 19) (by decide +kernel), List.mem_of_getElem? (i := 358) (by decide +kernel), List.mem_of_getElem? (i := 359) (by decide +kernel)⟩
theorem lw_p9 : lw_okq (⟨"ReportCauses", "tryOut", "(I)V"⟩, 10) := ⟨⟨by decide +kernel, by decide +kernel⟩, List.mem_of_getElem? (i := 19) (by decide +kernel), List.mem_of_getElem? (i := 372) (by decide +kernel), List.mem_of_getElem? (i := 373) (by decide +kernel)⟩
theorem lw_p10 : lw_okq (⟨"ReportCauses", "lightestCover", "(I)I"⟩, 10) := ⟨⟨by decide +kernel, by decide +kernel⟩, List.mem_of_getElem? (i := 19) (by decide +kernel), List.mem_of_getElem? (i := 430) (by decide +kernel), List.mem_of_getElem? (i := 431) (by decide +kernel)⟩
theorem lw_p11 : lw_okq (⟨"ReportCauses", "putsAllRight", "(I)Z"⟩, 10) := ⟨⟨by decide +kernel, by decide +kernel⟩, List.mem_of_getElem? (i := 19) (by decide +kernel), List.mem_of_getElem? (i := 434) (by decide +kernel), List.mem_of_getElem? (i := 435) (by decide +kernel)⟩
theorem lw_p12 : lw_okq (⟨"ReportCausesModel", "begin", "(I)V"⟩, 23) := ⟨⟨by decide +kernel, by decide +kernel⟩, List.mem_of_getElem? (i := 661) (by decide +kernel), List.mem_of_getElem? (i := 762) (by decide +kernel), List.mem_of_getElem? (i := 763) (by decide +kernel)⟩
theorem lw_p13 : lw_okq (⟨"ReportCausesModel", "resultsNow", "()I"⟩, 23) := ⟨⟨by decide +kernel, by decide +kernel⟩, List.mem_of_getElem? (i := 661) (by decide +kernel), List.mem_of_getElem? (i := 766) (by decide +kernel), List.mem_of_getElem? (i := 767) (by decide +kernel)⟩
theorem lw_p14 : lw_okq (⟨"ReportCausesModel", "isResult", "(II)Z"⟩, 23) := ⟨⟨by decide +kernel, by decide +kernel⟩, List.mem_of_getElem? (i := 661) (by decide +kernel), List.mem_of_getElem? (i := 770) (by decide +kernel), List.mem_of_getElem? (i := 771) (by decide +kernel)⟩
theorem lw_p15 : lw_okq (⟨"ReportCausesModel", "isOfNow", "(II)Z"⟩, 23) := ⟨⟨by decide +kernel, by decide +kernel⟩, List.mem_of_getElem? (i := 661) (by decide +kernel), List.mem_of_getElem? (i := 774) (by decide +kernel), List.mem_of_getElem? (i := 775) (by decide +kernel)⟩
def lw_privs_1 : List (MethodName × Nat) := [(⟨"ReportCauses", "putOrTake", "(ZIII)I"⟩, 10), (⟨"ReportCauses$Triples", "classesOf", "(I)I"⟩, 4), (⟨"ReportCauses$Rules", "holds", "(LReportCauses$Triples;II)Z"⟩, 5), (⟨"ReportCauses", "nthResult", "(IZ)I"⟩, 10), (⟨"ReportCauses$Triples", "fewestBelows", "(II)I"⟩, 4), (⟨"ReportCauses$Triples", "leadingInto", "(I)I"⟩, 4), (⟨"ReportCauses", "offer", "(ZIII)V"⟩, 10), (⟨"ReportCauses", "offerAbout", "(III)V"⟩, 10), (⟨"ReportCauses", "findSets", "(III)V"⟩, 10), (⟨"ReportCauses", "tryOut", "(I)V"⟩, 10), (⟨"ReportCauses", "lightestCover", "(I)I"⟩, 10), (⟨"ReportCauses", "putsAllRight", "(I)Z"⟩, 10), (⟨"ReportCausesModel", "begin", "(I)V"⟩, 23), (⟨"ReportCausesModel", "resultsNow", "()I"⟩, 23), (⟨"ReportCausesModel", "isResult", "(II)Z"⟩, 23), (⟨"ReportCausesModel", "isOfNow", "(II)Z"⟩, 23)]
theorem lw_r1 : ∀ q ∈ lw_privs_1, lw_okq q := List.forall_mem_cons.mpr ⟨lw_p0, List.forall_mem_cons.mpr ⟨lw_p1, List.forall_mem_cons.mpr ⟨lw_p2, List.forall_mem_cons.mpr ⟨lw_p3, List.forall_mem_cons.mpr ⟨lw_p4, List.forall_mem_cons.mpr ⟨lw_p5, List.forall_mem_cons.mpr ⟨lw_p6, List.forall_mem_cons.mpr ⟨lw_p7, List.forall_mem_cons.mpr ⟨lw_p8, List.forall_mem_cons.mpr ⟨lw_p9, List.forall_mem_cons.mpr ⟨lw_p10, List.forall_mem_cons.mpr ⟨lw_p11, List.forall_mem_cons.mpr ⟨lw_p12, List.forall_mem_cons.mpr ⟨lw_p13, List.forall_mem_cons.mpr ⟨lw_p14, List.forall_mem_cons.mpr ⟨lw_p15, fun _ h => absurd h List.not_mem_nil⟩⟩⟩⟩⟩⟩⟩⟩⟩⟩⟩⟩⟩⟩⟩⟩
theorem lw_p16 : lw_okq (⟨"ReportCausesModel", "holds", "(II)Z"⟩, 23) := ⟨⟨by decide +kernel, by decide +kernel⟩, List.mem_of_getElem? (i := 661) (by decide +kernel), List.mem_of_getElem? (i := 778) (by decide +kernel), List.mem_of_getElem? (i := 779) (by decide +kernel)⟩
theorem lw_p17 : lw_okq (⟨"ReportCausesModel", "measure", "(I)V"⟩, 23) := ⟨⟨by decide +kernel, by decide +kernel⟩, List.mem_of_getElem? (i := 661) (by decide +kernel), List.mem_of_getElem? (i := 794) (by decide +kernel), List.mem_of_getElem? (i := 795) (by decide +kernel)⟩
theorem lw_p18 : lw_okq (⟨"ReportCausesModel", "isThere", "(ZI)Z"⟩, 23) := ⟨⟨by decide +kernel, by decide +kernel⟩, List.mem_of_getElem? (i := 661) (by decide +kernel), List.mem_of_getElem? (i := 802) (by decide +kernel), List.mem_of_getElem? (i := 803) (by decide +kernel)⟩
theorem lw_p19 : lw_okq (⟨"ReportCausesModel", "enter", "(ZII)V"⟩, 23) := ⟨⟨by decide +kernel, by decide +kernel⟩, List.mem_of_getElem? (i := 661) (by decide +kernel), List.mem_of_getElem? (i := 806) (by decide +kernel), List.mem_of_getElem? (i := 807) (by decide +kernel)⟩
theorem lw_p20 : lw_okq (⟨"ReportCausesModel", "isPair", "(II)Z"⟩, 23) := ⟨⟨by decide +kernel, by decide +kernel⟩, List.mem_of_getElem? (i := 661) (by decide +kernel), List.mem_of_getElem? (i := 814) (by decide +kernel), List.mem_of_getElem? (i := 815) (by decide +kernel)⟩
theorem lw_p21 : lw_okq (⟨"ReportCausesModel", "offer", "(ZI)V"⟩, 23) := ⟨⟨by decide +kernel, by decide +kernel⟩, List.mem_of_getElem? (i := 661) (by decide +kernel), List.mem_of_getElem? (i := 818) (by decide +kernel), List.mem_of_getElem? (i := 819) (by decide +kernel)⟩
theorem lw_p22 : lw_okq (⟨"ReportCausesModel", "first", "(I)V"⟩, 23) := ⟨⟨by decide +kernel, by decide +kernel⟩, List.mem_of_getElem? (i := 661) (by decide +kernel), List.mem_of_getElem? (i := 834) (by decide +kernel), List.mem_of_getElem? (i := 835) (by decide +kernel)⟩
theorem lw_p23 : lw_okq (⟨"ReportCausesModel", "setOf", "(I)I"⟩, 23) := ⟨⟨by decide +kernel, by decide +kernel⟩, List.mem_of_getElem? (i := 661) (by decide +kernel), List.mem_of_getElem? (i := 838) (by decide +kernel), List.mem_of_getElem? (i := 839) (by decide +kernel)⟩
theorem lw_p24 : lw_okq (⟨"ReportCausesModel", "hasOneWithin", "(I)Z"⟩, 23) := ⟨⟨by decide +kernel, by decide +kernel⟩, List.mem_of_getElem? (i := 661) (by decide +kernel), List.mem_of_getElem? (i := 842) (by decide +kernel), List.mem_of_getElem? (i := 843) (by decide +kernel)⟩
theorem lw_p25 : lw_okq (⟨"ReportCausesModel", "look", "(III)V"⟩, 23) := ⟨⟨by decide +kernel, by decide +kernel⟩, List.mem_of_getElem? (i := 661) (by decide +kernel), List.mem_of_getElem? (i := 846) (by decide +kernel), List.mem_of_getElem? (i := 847) (by decide +kernel)⟩
theorem lw_p26 : lw_okq (⟨"ReportCausesModel", "next", "(I)Z"⟩, 23) := ⟨⟨by decide +kernel, by decide +kernel⟩, List.mem_of_getElem? (i := 661) (by decide +kernel), List.mem_of_getElem? (i := 850) (by decide +kernel), List.mem_of_getElem? (i := 851) (by decide +kernel)⟩
theorem lw_p27 : lw_okq (⟨"ReportCausesModel", "sort", "()V"⟩, 23) := ⟨⟨by decide +kernel, by decide +kernel⟩, List.mem_of_getElem? (i := 661) (by decide +kernel), List.mem_of_getElem? (i := 854) (by decide +kernel), List.mem_of_getElem? (i := 855) (by decide +kernel)⟩
theorem lw_p28 : lw_okq (⟨"ReportCausesModel", "weightOf", "(I)I"⟩, 23) := ⟨⟨by decide +kernel, by decide +kernel⟩, List.mem_of_getElem? (i := 661) (by decide +kernel), List.mem_of_getElem? (i := 858) (by decide +kernel), List.mem_of_getElem? (i := 859) (by decide +kernel)⟩
theorem lw_p29 : lw_okq (⟨"ReportCausesModel", "weigh", "(I)V"⟩, 23) := ⟨⟨by decide +kernel, by decide +kernel⟩, List.mem_of_getElem? (i := 661) (by decide +kernel), List.mem_of_getElem? (i := 869) (by decide +kernel), List.mem_of_getElem? (i := 870) (by decide +kernel)⟩
theorem lw_p30 : lw_okq (⟨"ReportCausesModel", "isFound", "(I)Z"⟩, 23) := ⟨⟨by decide +kernel, by decide +kernel⟩, List.mem_of_getElem? (i := 661) (by decide +kernel), List.mem_of_getElem? (i := 885) (by decide +kernel), List.mem_of_getElem? (i := 886) (by decide +kernel)⟩
theorem lw_p31 : lw_okq (⟨"ReportCausesModel", "tell", "(I)V"⟩, 23) := ⟨⟨by decide +kernel, by decide +kernel⟩, List.mem_of_getElem? (i := 661) (by decide +kernel), List.mem_of_getElem? (i := 912) (by decide +kernel), List.mem_of_getElem? (i := 913) (by decide +kernel)⟩
def lw_privs_2 : List (MethodName × Nat) := [(⟨"ReportCausesModel", "holds", "(II)Z"⟩, 23), (⟨"ReportCausesModel", "measure", "(I)V"⟩, 23), (⟨"ReportCausesModel", "isThere", "(ZI)Z"⟩, 23), (⟨"ReportCausesModel", "enter", "(ZII)V"⟩, 23), (⟨"ReportCausesModel", "isPair", "(II)Z"⟩, 23), (⟨"ReportCausesModel", "offer", "(ZI)V"⟩, 23), (⟨"ReportCausesModel", "first", "(I)V"⟩, 23), (⟨"ReportCausesModel", "setOf", "(I)I"⟩, 23), (⟨"ReportCausesModel", "hasOneWithin", "(I)Z"⟩, 23), (⟨"ReportCausesModel", "look", "(III)V"⟩, 23), (⟨"ReportCausesModel", "next", "(I)Z"⟩, 23), (⟨"ReportCausesModel", "sort", "()V"⟩, 23), (⟨"ReportCausesModel", "weightOf", "(I)I"⟩, 23), (⟨"ReportCausesModel", "weigh", "(I)V"⟩, 23), (⟨"ReportCausesModel", "isFound", "(I)Z"⟩, 23), (⟨"ReportCausesModel", "tell", "(I)V"⟩, 23)]
theorem lw_r2 : ∀ q ∈ lw_privs_2, lw_okq q := List.forall_mem_cons.mpr ⟨lw_p16, List.forall_mem_cons.mpr ⟨lw_p17, List.forall_mem_cons.mpr ⟨lw_p18, List.forall_mem_cons.mpr ⟨lw_p19, List.forall_mem_cons.mpr ⟨lw_p20, List.forall_mem_cons.mpr ⟨lw_p21, List.forall_mem_cons.mpr ⟨lw_p22, List.forall_mem_cons.mpr ⟨lw_p23, List.forall_mem_cons.mpr ⟨lw_p24, List.forall_mem_cons.mpr ⟨lw_p25, List.forall_mem_cons.mpr ⟨lw_p26, List.forall_mem_cons.mpr ⟨lw_p27, List.forall_mem_cons.mpr ⟨lw_p28, List.forall_mem_cons.mpr ⟨lw_p29, List.forall_mem_cons.mpr ⟨lw_p30, List.forall_mem_cons.mpr ⟨lw_p31, fun _ h => absurd h List.not_mem_nil⟩⟩⟩⟩⟩⟩⟩⟩⟩⟩⟩⟩⟩⟩⟩⟩
theorem lw_p32 : lw_okq (⟨"ReportCausesModel", "tellNumber", "(I)V"⟩, 23) := ⟨⟨by decide +kernel, by decide +kernel⟩, List.mem_of_getElem? (i := 661) (by decide +kernel), List.mem_of_getElem? (i := 916) (by decide +kernel), List.mem_of_getElem? (i := 917) (by decide +kernel)⟩
def lw_privs_3 : List (MethodName × Nat) := [(⟨"ReportCausesModel", "tellNumber", "(I)V"⟩, 23)]
theorem lw_r3 : ∀ q ∈ lw_privs_3, lw_okq q := List.forall_mem_cons.mpr ⟨lw_p32, fun _ h => absurd h List.not_mem_nil⟩
def lw_privs : List (MethodName × Nat) := lw_privs_1 ++ (lw_privs_2 ++ (lw_privs_3))
def lw_tbl : List Cond := k2_sels lw_privs ++ tables_1
theorem lw_privs_ok : ∀ q ∈ lw_privs, lw_okq q := by
  show ∀ q ∈ lw_privs_1 ++ (lw_privs_2 ++ (lw_privs_3)), lw_okq q
  exact List.forall_mem_append.mpr ⟨lw_r1, List.forall_mem_append.mpr ⟨lw_r2, lw_r3⟩⟩
end
section
abbrev RK0 : String := "ReportCauses"
abbrev RK1 : String := "ReportCauses$Triples"
abbrev RK2 : String := "ReportCauses$Rules"
abbrev RK3 : String := "ReportCauses$Changes"
abbrev RK4 : String := "ReportCauses$Findings"
abbrev RK5 : String := "ReportCausesModel"
abbrev RK6 : String := "java/lang/StringBuilder"
abbrev RJ1 : String := "java/lang/AbstractStringBuilder"
abbrev RJ2 : String := "java/lang/Integer"
abbrev RJ3 : String := "java/lang/String"
abbrev RJ4 : String := "java/lang/StringLatin1"
abbrev RJ5 : String := "java/lang/StringUTF16"
abbrev RJ6 : String := "java/util/Arrays"
abbrev RJ7 : String := "jdk/internal/util/ArraysSupport"
abbrev RJ8 : String := "jdk/internal/util/Preconditions"
abbrev RJ9 : String := "java/lang/Math"
abbrev RJS : String := "java/lang/System"
abbrev RJO : String := "java/lang/Object"
abbrev RL : String := "ReportCausesLaw"
abbrev RJC : String := "java/lang/Cloneable"
def TK0 : u_T := fun k => match k with
  | 0 => ("ReportCauses", "triples", "LReportCauses$Triples;", true)
  | 1 => ("ReportCauses", "trial", "LReportCauses$Triples;", true)
  | 2 => ("ReportCauses", "rules", "LReportCauses$Rules;", true)
  | 3 => ("ReportCauses", "changes", "LReportCauses$Changes;", true)
  | 4 => ("ReportCauses", "found", "LReportCauses$Findings;", true)
  | 5 => ("ReportCauses", "told", "Ljava/lang/StringBuilder;", true)
  | 6 => ("ReportCauses", "coveredSet", "I", false)
  | 7 => ("ReportCauses", "allowedTries", "I", false)
  | 8 => ("ReportCauses", "latestTried", "I", false)
  | _ => ("ReportCauses", "latestSettled", "Z", false)
def tyK0 : Nat → FieldType := fun k => match k with
  | 0 => .object "ReportCauses$Triples"
  | 1 => .object "ReportCauses$Triples"
  | 2 => .object "ReportCauses$Rules"
  | 3 => .object "ReportCauses$Changes"
  | 4 => .object "ReportCauses$Findings"
  | 5 => .object "java/lang/StringBuilder"
  | 6 => .int
  | 7 => .int
  | 8 => .int
  | _ => .boolean
theorem nmK0 : ∀ a, a < 10 → ∀ b, b < 10 → a ≠ b → (TK0 a).2.1 ≠ (TK0 b).2.1 := by decide +kernel
theorem tyK0_ok : ∀ k, k < 10 → parseFieldDescriptor (TK0 k).2.2.1 = some (tyK0 k) := by decide +kernel
def TK1 : u_T := fun k => match k with
  | 0 => ("ReportCauses$Triples", "objects", "[I", true)
  | 1 => ("ReportCauses$Triples", "members", "[I", true)
  | 2 => ("ReportCauses$Triples", "within", "[I", true)
  | _ => ("ReportCauses$Triples", "isSorted", "Z", false)
def tyK1 : Nat → FieldType := fun k => match k with
  | 0 => .array .int
  | 1 => .array .int
  | 2 => .array .int
  | _ => .boolean
theorem nmK1 : ∀ a, a < 4 → ∀ b, b < 4 → a ≠ b → (TK1 a).2.1 ≠ (TK1 b).2.1 := by decide +kernel
theorem tyK1_ok : ∀ k, k < 4 → parseFieldDescriptor (TK1 k).2.2.1 = some (tyK1 k) := by decide +kernel
def TK2 : u_T := fun k => match k with
  | 0 => ("ReportCauses$Rules", "kind", "[I", true)
  | 1 => ("ReportCauses$Rules", "target", "[I", true)
  | 2 => ("ReportCauses$Rules", "predicate", "[I", true)
  | 3 => ("ReportCauses$Rules", "number", "[I", true)
  | _ => ("ReportCauses$Rules", "count", "I", false)
def tyK2 : Nat → FieldType := fun k => match k with
  | 0 => .array .int
  | 1 => .array .int
  | 2 => .array .int
  | 3 => .array .int
  | _ => .int
theorem nmK2 : ∀ a, a < 5 → ∀ b, b < 5 → a ≠ b → (TK2 a).2.1 ≠ (TK2 b).2.1 := by decide +kernel
theorem tyK2_ok : ∀ k, k < 5 → parseFieldDescriptor (TK2 k).2.2.1 = some (tyK2 k) := by decide +kernel
def TK3 : u_T := fun k => match k with
  | 0 => ("ReportCauses$Changes", "puts", "[Z", true)
  | 1 => ("ReportCauses$Changes", "code", "[I", true)
  | 2 => ("ReportCauses$Changes", "weighs", "[I", true)
  | _ => ("ReportCauses$Changes", "count", "I", false)
def tyK3 : Nat → FieldType := fun k => match k with
  | 0 => .array .boolean
  | 1 => .array .int
  | 2 => .array .int
  | _ => .int
theorem nmK3 : ∀ a, a < 4 → ∀ b, b < 4 → a ≠ b → (TK3 a).2.1 ≠ (TK3 b).2.1 := by decide +kernel
theorem tyK3_ok : ∀ k, k < 4 → parseFieldDescriptor (TK3 k).2.2.1 = some (tyK3 k) := by decide +kernel
def TK4 : u_T := fun k => match k with
  | 0 => ("ReportCauses$Findings", "sets", "[I", true)
  | 1 => ("ReportCauses$Findings", "sums", "[I", true)
  | _ => ("ReportCauses$Findings", "count", "I", false)
def tyK4 : Nat → FieldType := fun k => match k with
  | 0 => .array .int
  | 1 => .array .int
  | _ => .int
theorem nmK4 : ∀ a, a < 3 → ∀ b, b < 3 → a ≠ b → (TK4 a).2.1 ≠ (TK4 b).2.1 := by decide +kernel
theorem tyK4_ok : ∀ k, k < 3 → parseFieldDescriptor (TK4 k).2.2.1 = some (tyK4 k) := by decide +kernel
def TK5 : u_T := fun k => match k with
  | 0 => ("ReportCausesModel", "there", "[Z", true)
  | 1 => ("ReportCausesModel", "now", "[Z", true)
  | 2 => ("ReportCausesModel", "rules", "I", false)
  | 3 => ("ReportCausesModel", "kinds", "[I", true)
  | 4 => ("ReportCausesModel", "targets", "[I", true)
  | 5 => ("ReportCausesModel", "predicates", "[I", true)
  | 6 => ("ReportCausesModel", "numbers", "[I", true)
  | 7 => ("ReportCausesModel", "changes", "I", false)
  | 8 => ("ReportCausesModel", "puts", "[Z", true)
  | 9 => ("ReportCausesModel", "codes", "[I", true)
  | 10 => ("ReportCausesModel", "weights", "[I", true)
  | 11 => ("ReportCausesModel", "mostTries", "I", false)
  | 12 => ("ReportCausesModel", "tried", "I", false)
  | 13 => ("ReportCausesModel", "settled", "Z", false)
  | 14 => ("ReportCausesModel", "found", "I", false)
  | 15 => ("ReportCausesModel", "sets", "[I", true)
  | 16 => ("ReportCausesModel", "isCovered", "Z", false)
  | 17 => ("ReportCausesModel", "covered", "I", false)
  | 18 => ("ReportCausesModel", "picks", "[I", true)
  | 19 => ("ReportCausesModel", "classes", "[Z", true)
  | 20 => ("ReportCausesModel", "steps", "[I", true)
  | 21 => ("ReportCausesModel", "told", "[I", true)
  | _ => ("ReportCausesModel", "toldMany", "I", false)
def tyK5 : Nat → FieldType := fun k => match k with
  | 0 => .array .boolean
  | 1 => .array .boolean
  | 2 => .int
  | 3 => .array .int
  | 4 => .array .int
  | 5 => .array .int
  | 6 => .array .int
  | 7 => .int
  | 8 => .array .boolean
  | 9 => .array .int
  | 10 => .array .int
  | 11 => .int
  | 12 => .int
  | 13 => .boolean
  | 14 => .int
  | 15 => .array .int
  | 16 => .boolean
  | 17 => .int
  | 18 => .array .int
  | 19 => .array .boolean
  | 20 => .array .int
  | 21 => .array .int
  | _ => .int
theorem nmK5 : ∀ a, a < 23 → ∀ b, b < 23 → a ≠ b → (TK5 a).2.1 ≠ (TK5 b).2.1 := by decide +kernel
theorem tyK5_ok : ∀ k, k < 23 → parseFieldDescriptor (TK5 k).2.2.1 = some (tyK5 k) := by decide +kernel
def TK6 : u_T := fun k => match k with
  | 0 => ("java/lang/AbstractStringBuilder", "value", "[B", false)
  | 1 => ("java/lang/AbstractStringBuilder", "coder", "B", false)
  | 2 => ("java/lang/AbstractStringBuilder", "maybeLatin1", "Z", false)
  | _ => ("java/lang/AbstractStringBuilder", "count", "I", false)
def tyK6 : Nat → FieldType := fun k => match k with
  | 0 => .array .byte
  | 1 => .byte
  | 2 => .boolean
  | _ => .int
theorem nmK6 : ∀ a, a < 4 → ∀ b, b < 4 → a ≠ b → (TK6 a).2.1 ≠ (TK6 b).2.1 := by decide +kernel
theorem tyK6_ok : ∀ k, k < 4 → parseFieldDescriptor (TK6 k).2.2.1 = some (tyK6 k) := by decide +kernel
abbrev vwCl : List vw_C := [(RK0, TK0, 10), (RK1, TK1, 4), (RK2, TK2, 5), (RK3, TK3, 4), (RK4, TK4, 3), (RK5, TK5, 23), (RK6, TK6, 4)]
abbrev cK0_init : ByteArray := prog_1_method_1_code
abbrev yK0_init : MethodName := ⟨"ReportCauses", "<init>", "()V"⟩
abbrev cK1_init : ByteArray := prog_5_method_1_code
abbrev yK1_init : MethodName := ⟨"ReportCauses$Triples", "<init>", "()V"⟩
abbrev cK2_init : ByteArray := prog_4_method_1_code
abbrev yK2_init : MethodName := ⟨"ReportCauses$Rules", "<init>", "()V"⟩
abbrev cK3_init : ByteArray := prog_2_method_1_code
abbrev yK3_init : MethodName := ⟨"ReportCauses$Changes", "<init>", "()V"⟩
abbrev cK4_init : ByteArray := prog_3_method_1_code
abbrev yK4_init : MethodName := ⟨"ReportCauses$Findings", "<init>", "()V"⟩
abbrev cK6_init : ByteArray := prog_13_method_1_code
abbrev yK6_init : MethodName := ⟨"java/lang/StringBuilder", "<init>", "()V"⟩
abbrev cJ1_init : ByteArray := prog_8_method_2_code
abbrev yJ1_init : MethodName := ⟨"java/lang/AbstractStringBuilder", "<init>", "(I)V"⟩
abbrev cJ5_newBytesFor : ByteArray := prog_15_method_2_code
abbrev yJ5_newBytesFor : MethodName := ⟨"java/lang/StringUTF16", "newBytesFor", "(I)[B"⟩
abbrev cJ5_newBytesLength : ByteArray := prog_15_method_3_code
abbrev yJ5_newBytesLength : MethodName := ⟨"java/lang/StringUTF16", "newBytesLength", "(I)I"⟩
abbrev cK0_triple : ByteArray := prog_1_method_2_code
abbrev yK0_triple : MethodName := ⟨"ReportCauses", "triple", "(III)I"⟩
abbrev cK0_putOrTake : ByteArray := prog_1_method_32_code
abbrev yK0_putOrTake : MethodName := ⟨"ReportCauses", "putOrTake", "(ZIII)I"⟩
abbrev cK0_isTriple : ByteArray := prog_1_method_26_code
abbrev yK0_isTriple : MethodName := ⟨"ReportCauses", "isTriple", "(III)Z"⟩
abbrev cK0_isNode : ByteArray := prog_1_method_24_code
abbrev yK0_isNode : MethodName := ⟨"ReportCauses", "isNode", "(I)Z"⟩
abbrev cK0_isPredicate : ByteArray := prog_1_method_25_code
abbrev yK0_isPredicate : MethodName := ⟨"ReportCauses", "isPredicate", "(I)Z"⟩
abbrev cK1_has : ByteArray := prog_5_method_2_code
abbrev yK1_has : MethodName := ⟨"ReportCauses$Triples", "has", "(III)Z"⟩
abbrev cK1_objectsOf : ByteArray := prog_5_method_3_code
abbrev yK1_objectsOf : MethodName := ⟨"ReportCauses$Triples", "objectsOf", "(II)I"⟩
abbrev cK0_hasMember : ByteArray := prog_1_method_29_code
abbrev yK0_hasMember : MethodName := ⟨"ReportCauses", "hasMember", "(II)Z"⟩
abbrev cK0_codeOf : ByteArray := prog_1_method_28_code
abbrev yK0_codeOf : MethodName := ⟨"ReportCauses", "codeOf", "(III)I"⟩
abbrev cK1_alter : ByteArray := prog_5_method_7_code
abbrev yK1_alter : MethodName := ⟨"ReportCauses$Triples", "alter", "(ZI)V"⟩
abbrev cK1_sortIntoClasses : ByteArray := prog_5_method_8_code
abbrev yK1_sortIntoClasses : MethodName := ⟨"ReportCauses$Triples", "sortIntoClasses", "()V"⟩
abbrev cJ6_fill_aIIV : ByteArray := prog_17_method_103_code
abbrev yJ6_fill_aIIV : MethodName := ⟨"java/util/Arrays", "fill", "([II)V"⟩
abbrev cK1_classesOf : ByteArray := prog_5_method_13_code
abbrev yK1_classesOf : MethodName := ⟨"ReportCauses$Triples", "classesOf", "(I)I"⟩
abbrev cK1_least : ByteArray := prog_5_method_12_code
abbrev yK1_least : MethodName := ⟨"ReportCauses$Triples", "least", "(I)I"⟩
abbrev cJ2_numberOfTrailingZeros : ByteArray := prog_10_method_48_code
abbrev yJ2_numberOfTrailingZeros : MethodName := ⟨"java/lang/Integer", "numberOfTrailingZeros", "(I)I"⟩
abbrev cJ9_min : ByteArray := prog_11_method_69_code
abbrev yJ9_min : MethodName := ⟨"java/lang/Math", "min", "(II)I"⟩
abbrev cK0_drop : ByteArray := prog_1_method_3_code
abbrev yK0_drop : MethodName := ⟨"ReportCauses", "drop", "(III)I"⟩
abbrev cK0_rule : ByteArray := prog_1_method_4_code
abbrev yK0_rule : MethodName := ⟨"ReportCauses", "rule", "(IIII)I"⟩
abbrev cK0_fitsKind : ByteArray := prog_1_method_27_code
abbrev yK0_fitsKind : MethodName := ⟨"ReportCauses", "fitsKind", "(II)Z"⟩
abbrev cK2_add : ByteArray := prog_4_method_3_code
abbrev yK2_add : MethodName := ⟨"ReportCauses$Rules", "add", "(IIII)I"⟩
abbrev cK0_results : ByteArray := prog_1_method_5_code
abbrev yK0_results : MethodName := ⟨"ReportCauses", "results", "()I"⟩
abbrev cK2_failing : ByteArray := prog_4_method_5_code
abbrev yK2_failing : MethodName := ⟨"ReportCauses$Rules", "failing", "(LReportCauses$Triples;I)I"⟩
abbrev cK1_membersOf : ByteArray := prog_5_method_4_code
abbrev yK1_membersOf : MethodName := ⟨"ReportCauses$Triples", "membersOf", "(I)I"⟩
abbrev cK2_holds : ByteArray := prog_4_method_6_code
abbrev yK2_holds : MethodName := ⟨"ReportCauses$Rules", "holds", "(LReportCauses$Triples;II)Z"⟩
abbrev cJ2_bitCount : ByteArray := prog_10_method_49_code
abbrev yJ2_bitCount : MethodName := ⟨"java/lang/Integer", "bitCount", "(I)I"⟩
abbrev cK0_result : ByteArray := prog_1_method_6_code
abbrev yK0_result : MethodName := ⟨"ReportCauses", "result", "(I)I"⟩
abbrev cK0_nthResult : ByteArray := prog_1_method_33_code
abbrev yK0_nthResult : MethodName := ⟨"ReportCauses", "nthResult", "(IZ)I"⟩
abbrev cK0_nthMember : ByteArray := prog_1_method_30_code
abbrev yK0_nthMember : MethodName := ⟨"ReportCauses", "nthMember", "(II)I"⟩
abbrev cK0_isOf : ByteArray := prog_1_method_7_code
abbrev yK0_isOf : MethodName := ⟨"ReportCauses", "isOf", "(II)I"⟩
abbrev cK1_isMember : ByteArray := prog_5_method_5_code
abbrev yK1_isMember : MethodName := ⟨"ReportCauses$Triples", "isMember", "(II)Z"⟩
abbrev cK0_reason : ByteArray := prog_1_method_8_code
abbrev yK0_reason : MethodName := ⟨"ReportCauses", "reason", "(III)I"⟩
abbrev cK1_nthOfReason : ByteArray := prog_5_method_9_code
abbrev yK1_nthOfReason : MethodName := ⟨"ReportCauses$Triples", "nthOfReason", "(III)I"⟩
abbrev cK1_fewestBelows : ByteArray := prog_5_method_10_code
abbrev yK1_fewestBelows : MethodName := ⟨"ReportCauses$Triples", "fewestBelows", "(II)I"⟩
abbrev cK1_leadingInto : ByteArray := prog_5_method_11_code
abbrev yK1_leadingInto : MethodName := ⟨"ReportCauses$Triples", "leadingInto", "(I)I"⟩
abbrev cK0_change : ByteArray := prog_1_method_9_code
abbrev yK0_change : MethodName := ⟨"ReportCauses", "change", "(ZIIII)I"⟩
abbrev cK3_add : ByteArray := prog_2_method_2_code
abbrev yK3_add : MethodName := ⟨"ReportCauses$Changes", "add", "(ZII)I"⟩
abbrev cK0_suggest : ByteArray := prog_1_method_10_code
abbrev yK0_suggest : MethodName := ⟨"ReportCauses", "suggest", "(II)I"⟩
abbrev cK2_has : ByteArray := prog_4_method_2_code
abbrev yK2_has : MethodName := ⟨"ReportCauses$Rules", "has", "(I)Z"⟩
abbrev cK2_fails : ByteArray := prog_4_method_4_code
abbrev yK2_fails : MethodName := ⟨"ReportCauses$Rules", "fails", "(LReportCauses$Triples;II)Z"⟩
abbrev cK0_offer : ByteArray := prog_1_method_34_code
abbrev yK0_offer : MethodName := ⟨"ReportCauses", "offer", "(ZIII)V"⟩
abbrev cK0_offerAbout : ByteArray := prog_1_method_35_code
abbrev yK0_offerAbout : MethodName := ⟨"ReportCauses", "offerAbout", "(III)V"⟩
abbrev cK0_clear : ByteArray := prog_1_method_11_code
abbrev yK0_clear : MethodName := ⟨"ReportCauses", "clear", "()I"⟩
abbrev cK3_forget : ByteArray := prog_2_method_3_code
abbrev yK3_forget : MethodName := ⟨"ReportCauses$Changes", "forget", "()V"⟩
abbrev cK4_forget : ByteArray := prog_3_method_2_code
abbrev yK4_forget : MethodName := ⟨"ReportCauses$Findings", "forget", "()V"⟩
abbrev cK0_tries : ByteArray := prog_1_method_12_code
abbrev yK0_tries : MethodName := ⟨"ReportCauses", "tries", "(I)I"⟩
abbrev cK0_find : ByteArray := prog_1_method_13_code
abbrev yK0_find : MethodName := ⟨"ReportCauses", "find", "(III)I"⟩
abbrev cK0_findSets : ByteArray := prog_1_method_37_code
abbrev yK0_findSets : MethodName := ⟨"ReportCauses", "findSets", "(III)V"⟩
abbrev cK0_nextSet : ByteArray := prog_1_method_31_code
abbrev yK0_nextSet : MethodName := ⟨"ReportCauses", "nextSet", "(III)I"⟩
abbrev cJ2_numberOfLeadingZeros : ByteArray := prog_10_method_47_code
abbrev yJ2_numberOfLeadingZeros : MethodName := ⟨"java/lang/Integer", "numberOfLeadingZeros", "(I)I"⟩
abbrev cK4_hasPartOf : ByteArray := prog_3_method_4_code
abbrev yK4_hasPartOf : MethodName := ⟨"ReportCauses$Findings", "hasPartOf", "(I)Z"⟩
abbrev cK0_tryOut : ByteArray := prog_1_method_36_code
abbrev yK0_tryOut : MethodName := ⟨"ReportCauses", "tryOut", "(I)V"⟩
abbrev cK1_copyFrom : ByteArray := prog_5_method_6_code
abbrev yK1_copyFrom : MethodName := ⟨"ReportCauses$Triples", "copyFrom", "(LReportCauses$Triples;)V"⟩
abbrev cK3_doAll : ByteArray := prog_2_method_5_code
abbrev yK3_doAll : MethodName := ⟨"ReportCauses$Changes", "doAll", "(LReportCauses$Triples;I)V"⟩
abbrev cK3_weightOf : ByteArray := prog_2_method_4_code
abbrev yK3_weightOf : MethodName := ⟨"ReportCauses$Changes", "weightOf", "(I)I"⟩
abbrev cK4_add : ByteArray := prog_3_method_5_code
abbrev yK4_add : MethodName := ⟨"ReportCauses$Findings", "add", "(II)V"⟩
abbrev cK0_settled : ByteArray := prog_1_method_14_code
abbrev yK0_settled : MethodName := ⟨"ReportCauses", "settled", "()Z"⟩
abbrev cK0_tried : ByteArray := prog_1_method_15_code
abbrev yK0_tried : MethodName := ⟨"ReportCauses", "tried", "()I"⟩
abbrev cK0_set : ByteArray := prog_1_method_16_code
abbrev yK0_set : MethodName := ⟨"ReportCauses", "set", "(II)I"⟩
abbrev cK4_at : ByteArray := prog_3_method_3_code
abbrev yK4_at : MethodName := ⟨"ReportCauses$Findings", "at", "(I)I"⟩
abbrev cK0_weight : ByteArray := prog_1_method_17_code
abbrev yK0_weight : MethodName := ⟨"ReportCauses", "weight", "(I)I"⟩
abbrev cK0_breaks : ByteArray := prog_1_method_18_code
abbrev yK0_breaks : MethodName := ⟨"ReportCauses", "breaks", "(II)I"⟩
abbrev cK0_apply : ByteArray := prog_1_method_19_code
abbrev yK0_apply : MethodName := ⟨"ReportCauses", "apply", "(I)I"⟩
abbrev cK0_cover : ByteArray := prog_1_method_20_code
abbrev yK0_cover : MethodName := ⟨"ReportCauses", "cover", "(I)I"⟩
abbrev cK0_lightestCover : ByteArray := prog_1_method_38_code
abbrev yK0_lightestCover : MethodName := ⟨"ReportCauses", "lightestCover", "(I)I"⟩
abbrev cK0_putsAllRight : ByteArray := prog_1_method_39_code
abbrev yK0_putsAllRight : MethodName := ⟨"ReportCauses", "putsAllRight", "(I)Z"⟩
abbrev cK0_covered : ByteArray := prog_1_method_21_code
abbrev yK0_covered : MethodName := ⟨"ReportCauses", "covered", "(I)I"⟩
abbrev cK0_sentence : ByteArray := prog_1_method_22_code
abbrev yK0_sentence : MethodName := ⟨"ReportCauses", "sentence", "(I)I"⟩
abbrev cK6_setLength : ByteArray := prog_13_method_89_code
abbrev yK6_setLength : MethodName := ⟨"java/lang/StringBuilder", "setLength", "(I)V"⟩
abbrev cJ1_setLength : ByteArray := prog_8_method_13_code
abbrev yJ1_setLength : MethodName := ⟨"java/lang/AbstractStringBuilder", "setLength", "(I)V"⟩
abbrev cJ1_ensureCapacityInternal : ByteArray := prog_8_method_9_code
abbrev yJ1_ensureCapacityInternal : MethodName := ⟨"java/lang/AbstractStringBuilder", "ensureCapacityInternal", "(I)V"⟩
abbrev cJ1_newCapacity : ByteArray := prog_8_method_10_code
abbrev yJ1_newCapacity : MethodName := ⟨"java/lang/AbstractStringBuilder", "newCapacity", "(I)I"⟩
abbrev cJ7_newLength : ByteArray := prog_18_method_27_code
abbrev yJ7_newLength : MethodName := ⟨"jdk/internal/util/ArraysSupport", "newLength", "(III)I"⟩
abbrev cJ9_max : ByteArray := prog_11_method_65_code
abbrev yJ9_max : MethodName := ⟨"java/lang/Math", "max", "(II)I"⟩
abbrev cJ7_hugeLength : ByteArray := prog_18_method_28_code
abbrev yJ7_hugeLength : MethodName := ⟨"jdk/internal/util/ArraysSupport", "hugeLength", "(II)I"⟩
abbrev cJ6_copyOf : ByteArray := prog_17_method_121_code
abbrev yJ6_copyOf : MethodName := ⟨"java/util/Arrays", "copyOf", "([BI)[B"⟩
abbrev cJ1_isLatin1 : ByteArray := prog_8_method_68_code
abbrev yJ1_isLatin1 : MethodName := ⟨"java/lang/AbstractStringBuilder", "isLatin1", "()Z"⟩
abbrev cJ4_fillNull : ByteArray := prog_14_method_48_code
abbrev yJ4_fillNull : MethodName := ⟨"java/lang/StringLatin1", "fillNull", "([BII)V"⟩
abbrev cJ6_fill_aBIIBV : ByteArray := prog_17_method_110_code
abbrev yJ6_fill_aBIIBV : MethodName := ⟨"java/util/Arrays", "fill", "([BIIB)V"⟩
abbrev cJ6_rangeCheck : ByteArray := prog_17_method_30_code
abbrev yJ6_rangeCheck : MethodName := ⟨"java/util/Arrays", "rangeCheck", "(III)V"⟩
abbrev cJ5_fillNull : ByteArray := prog_15_method_70_code
abbrev yJ5_fillNull : MethodName := ⟨"java/lang/StringUTF16", "fillNull", "([BII)V"⟩
abbrev cK6_length : ByteArray := prog_13_method_93_code
abbrev yK6_length : MethodName := ⟨"java/lang/StringBuilder", "length", "()I"⟩
abbrev cJ1_length : ByteArray := prog_8_method_6_code
abbrev yJ1_length : MethodName := ⟨"java/lang/AbstractStringBuilder", "length", "()I"⟩
abbrev cK6_append_LStringLStringBuilder : ByteArray := prog_13_method_7_code
abbrev yK6_append_LStringLStringBuilder : MethodName := ⟨"java/lang/StringBuilder", "append", "(Ljava/lang/String;)Ljava/lang/StringBuilder;"⟩
abbrev cJ1_append_LStringLAbstractStringBuilder : ByteArray := prog_8_method_22_code
abbrev yJ1_append_LStringLAbstractStringBuilder : MethodName := ⟨"java/lang/AbstractStringBuilder", "append", "(Ljava/lang/String;)Ljava/lang/AbstractStringBuilder;"⟩
abbrev cJ1_appendNull : ByteArray := prog_8_method_26_code
abbrev yJ1_appendNull : MethodName := ⟨"java/lang/AbstractStringBuilder", "appendNull", "()Ljava/lang/AbstractStringBuilder;"⟩
abbrev cJ5_putCharsAt : ByteArray := prog_15_method_81_code
abbrev yJ5_putCharsAt : MethodName := ⟨"java/lang/StringUTF16", "putCharsAt", "([BICCCC)I"⟩
abbrev cJ5_checkBoundsBeginEnd : ByteArray := prog_15_method_93_code
abbrev yJ5_checkBoundsBeginEnd : MethodName := ⟨"java/lang/StringUTF16", "checkBoundsBeginEnd", "(II[B)V"⟩
abbrev cJ5_length : ByteArray := prog_15_method_6_code
abbrev yJ5_length : MethodName := ⟨"java/lang/StringUTF16", "length", "([B)I"⟩
abbrev cJ3_checkBoundsBeginEnd : ByteArray := prog_12_method_158_code
abbrev yJ3_checkBoundsBeginEnd : MethodName := ⟨"java/lang/String", "checkBoundsBeginEnd", "(III)V"⟩
abbrev cJ8_checkFromToIndex : ByteArray := prog_19_method_12_code
abbrev yJ8_checkFromToIndex : MethodName := ⟨"jdk/internal/util/Preconditions", "checkFromToIndex", "(IIILjava/util/function/BiFunction;)I"⟩
abbrev cJ5_putChar : ByteArray := prog_15_method_4_code
abbrev yJ5_putChar : MethodName := ⟨"java/lang/StringUTF16", "putChar", "([BII)V"⟩
abbrev cJ3_length : ByteArray := prog_12_method_54_code
abbrev yJ3_length : MethodName := ⟨"java/lang/String", "length", "()I"⟩
abbrev cJ3_coder : ByteArray := prog_12_method_152_code
abbrev yJ3_coder : MethodName := ⟨"java/lang/String", "coder", "()B"⟩
abbrev cJ1_putStringAt : ByteArray := prog_8_method_73_code
abbrev yJ1_putStringAt : MethodName := ⟨"java/lang/AbstractStringBuilder", "putStringAt", "(ILjava/lang/String;)V"⟩
abbrev cJ1_inflateIfNeededFor : ByteArray := prog_8_method_71_code
abbrev yJ1_inflateIfNeededFor : MethodName := ⟨"java/lang/AbstractStringBuilder", "inflateIfNeededFor", "(Ljava/lang/String;)V"⟩
abbrev cJ1_inflate : ByteArray := prog_8_method_11_code
abbrev yJ1_inflate : MethodName := ⟨"java/lang/AbstractStringBuilder", "inflate", "()V"⟩
abbrev cJ4_inflate : ByteArray := prog_14_method_50_code
abbrev yJ4_inflate : MethodName := ⟨"java/lang/StringLatin1", "inflate", "([BI[BII)V"⟩
abbrev cJ5_inflate : ByteArray := prog_15_method_86_code
abbrev yJ5_inflate : MethodName := ⟨"java/lang/StringUTF16", "inflate", "([BI[BII)V"⟩
abbrev cJ5_checkBoundsOffCount : ByteArray := prog_15_method_94_code
abbrev yJ5_checkBoundsOffCount : MethodName := ⟨"java/lang/StringUTF16", "checkBoundsOffCount", "(II[B)V"⟩
abbrev cJ3_checkBoundsOffCount : ByteArray := prog_12_method_157_code
abbrev yJ3_checkBoundsOffCount : MethodName := ⟨"java/lang/String", "checkBoundsOffCount", "(III)I"⟩
abbrev cJ8_checkFromIndexSize : ByteArray := prog_19_method_13_code
abbrev yJ8_checkFromIndexSize : MethodName := ⟨"jdk/internal/util/Preconditions", "checkFromIndexSize", "(IIILjava/util/function/BiFunction;)I"⟩
abbrev cJ3_getBytes : ByteArray := prog_12_method_147_code
abbrev yJ3_getBytes : MethodName := ⟨"java/lang/String", "getBytes", "([BIB)V"⟩
abbrev cK3_tell : ByteArray := prog_2_method_6_code
abbrev yK3_tell : MethodName := ⟨"ReportCauses$Changes", "tell", "(ILjava/lang/StringBuilder;)V"⟩
abbrev cK6_append_ILStringBuilder : ByteArray := prog_13_method_15_code
abbrev yK6_append_ILStringBuilder : MethodName := ⟨"java/lang/StringBuilder", "append", "(I)Ljava/lang/StringBuilder;"⟩
abbrev cJ1_append_ILAbstractStringBuilder : ByteArray := prog_8_method_32_code
abbrev yJ1_append_ILAbstractStringBuilder : MethodName := ⟨"java/lang/AbstractStringBuilder", "append", "(I)Ljava/lang/AbstractStringBuilder;"⟩
abbrev cJ2_stringSize : ByteArray := prog_10_method_13_code
abbrev yJ2_stringSize : MethodName := ⟨"java/lang/Integer", "stringSize", "(I)I"⟩
abbrev cJ2_getChars : ByteArray := prog_10_method_12_code
abbrev yJ2_getChars : MethodName := ⟨"java/lang/Integer", "getChars", "(II[B)I"⟩
abbrev cJ5_getChars_IIIaBI : ByteArray := prog_15_method_77_code
abbrev yJ5_getChars_IIIaBI : MethodName := ⟨"java/lang/StringUTF16", "getChars", "(III[B)I"⟩
abbrev cJ5_getChars_IIaBI : ByteArray := prog_15_method_89_code
abbrev yJ5_getChars_IIaBI : MethodName := ⟨"java/lang/StringUTF16", "getChars", "(II[B)I"⟩
abbrev cK6_append_CLStringBuilder : ByteArray := prog_13_method_14_code
abbrev yK6_append_CLStringBuilder : MethodName := ⟨"java/lang/StringBuilder", "append", "(C)Ljava/lang/StringBuilder;"⟩
abbrev cJ1_append_CLAbstractStringBuilder : ByteArray := prog_8_method_31_code
abbrev yJ1_append_CLAbstractStringBuilder : MethodName := ⟨"java/lang/AbstractStringBuilder", "append", "(C)Ljava/lang/AbstractStringBuilder;"⟩
abbrev cJ4_canEncode : ByteArray := prog_14_method_3_code
abbrev yJ4_canEncode : MethodName := ⟨"java/lang/StringLatin1", "canEncode", "(C)Z"⟩
abbrev cJ5_putCharSB : ByteArray := prog_15_method_71_code
abbrev yJ5_putCharSB : MethodName := ⟨"java/lang/StringUTF16", "putCharSB", "([BII)V"⟩
abbrev cJ5_checkIndex : ByteArray := prog_15_method_91_code
abbrev yJ5_checkIndex : MethodName := ⟨"java/lang/StringUTF16", "checkIndex", "(I[B)V"⟩
abbrev cJ3_checkIndex : ByteArray := prog_12_method_155_code
abbrev yJ3_checkIndex : MethodName := ⟨"java/lang/String", "checkIndex", "(II)V"⟩
abbrev cJ8_checkIndex : ByteArray := prog_19_method_11_code
abbrev yJ8_checkIndex : MethodName := ⟨"jdk/internal/util/Preconditions", "checkIndex", "(IILjava/util/function/BiFunction;)I"⟩
abbrev cK0_letter : ByteArray := prog_1_method_23_code
abbrev yK0_letter : MethodName := ⟨"ReportCauses", "letter", "(I)I"⟩
abbrev cK6_charAt : ByteArray := prog_13_method_88_code
abbrev yK6_charAt : MethodName := ⟨"java/lang/StringBuilder", "charAt", "(I)C"⟩
abbrev cJ1_charAt : ByteArray := prog_8_method_14_code
abbrev yJ1_charAt : MethodName := ⟨"java/lang/AbstractStringBuilder", "charAt", "(I)C"⟩
abbrev cJ5_getChar : ByteArray := prog_15_method_5_code
abbrev yJ5_getChar : MethodName := ⟨"java/lang/StringUTF16", "getChar", "([BI)C"⟩
abbrev cK5_init : ByteArray := prog_7_method_1_code
abbrev yK5_init : MethodName := ⟨"ReportCausesModel", "<init>", "()V"⟩
abbrev cK5_triple : ByteArray := prog_7_method_5_code
abbrev yK5_triple : MethodName := ⟨"ReportCausesModel", "triple", "(III)I"⟩
abbrev cK5_isTriple : ByteArray := prog_7_method_3_code
abbrev yK5_isTriple : MethodName := ⟨"ReportCausesModel", "isTriple", "(III)Z"⟩
abbrev cK5_in : ByteArray := prog_7_method_2_code
abbrev yK5_in : MethodName := ⟨"ReportCausesModel", "in", "(III)Z"⟩
abbrev cK5_codeOf : ByteArray := prog_7_method_4_code
abbrev yK5_codeOf : MethodName := ⟨"ReportCausesModel", "codeOf", "(III)I"⟩
abbrev cK5_drop : ByteArray := prog_7_method_6_code
abbrev yK5_drop : MethodName := ⟨"ReportCausesModel", "drop", "(III)I"⟩
abbrev cK5_rule : ByteArray := prog_7_method_7_code
abbrev yK5_rule : MethodName := ⟨"ReportCausesModel", "rule", "(IIII)I"⟩
abbrev cK5_results : ByteArray := prog_7_method_13_code
abbrev yK5_results : MethodName := ⟨"ReportCausesModel", "results", "()I"⟩
abbrev cK5_begin : ByteArray := prog_7_method_8_code
abbrev yK5_begin : MethodName := ⟨"ReportCausesModel", "begin", "(I)V"⟩
abbrev cK5_resultsNow : ByteArray := prog_7_method_12_code
abbrev yK5_resultsNow : MethodName := ⟨"ReportCausesModel", "resultsNow", "()I"⟩
abbrev cK5_isResult : ByteArray := prog_7_method_11_code
abbrev yK5_isResult : MethodName := ⟨"ReportCausesModel", "isResult", "(II)Z"⟩
abbrev cK5_isOfNow : ByteArray := prog_7_method_9_code
abbrev yK5_isOfNow : MethodName := ⟨"ReportCausesModel", "isOfNow", "(II)Z"⟩
abbrev cK5_holds : ByteArray := prog_7_method_10_code
abbrev yK5_holds : MethodName := ⟨"ReportCausesModel", "holds", "(II)Z"⟩
abbrev cK5_result : ByteArray := prog_7_method_14_code
abbrev yK5_result : MethodName := ⟨"ReportCausesModel", "result", "(I)I"⟩
abbrev cK5_isOf : ByteArray := prog_7_method_15_code
abbrev yK5_isOf : MethodName := ⟨"ReportCausesModel", "isOf", "(II)I"⟩
abbrev cK5_reason : ByteArray := prog_7_method_17_code
abbrev yK5_reason : MethodName := ⟨"ReportCausesModel", "reason", "(III)I"⟩
abbrev cK5_measure : ByteArray := prog_7_method_16_code
abbrev yK5_measure : MethodName := ⟨"ReportCausesModel", "measure", "(I)V"⟩
abbrev cK5_change : ByteArray := prog_7_method_20_code
abbrev yK5_change : MethodName := ⟨"ReportCausesModel", "change", "(ZIIII)I"⟩
abbrev cK5_isThere : ByteArray := prog_7_method_18_code
abbrev yK5_isThere : MethodName := ⟨"ReportCausesModel", "isThere", "(ZI)Z"⟩
abbrev cK5_enter : ByteArray := prog_7_method_19_code
abbrev yK5_enter : MethodName := ⟨"ReportCausesModel", "enter", "(ZII)V"⟩
abbrev cK5_suggest : ByteArray := prog_7_method_23_code
abbrev yK5_suggest : MethodName := ⟨"ReportCausesModel", "suggest", "(II)I"⟩
abbrev cK5_isPair : ByteArray := prog_7_method_22_code
abbrev yK5_isPair : MethodName := ⟨"ReportCausesModel", "isPair", "(II)Z"⟩
abbrev cK5_offer : ByteArray := prog_7_method_21_code
abbrev yK5_offer : MethodName := ⟨"ReportCausesModel", "offer", "(ZI)V"⟩
abbrev cK5_clear : ByteArray := prog_7_method_24_code
abbrev yK5_clear : MethodName := ⟨"ReportCausesModel", "clear", "()I"⟩
abbrev cK5_tries : ByteArray := prog_7_method_25_code
abbrev yK5_tries : MethodName := ⟨"ReportCausesModel", "tries", "(I)I"⟩
abbrev cK5_find : ByteArray := prog_7_method_32_code
abbrev yK5_find : MethodName := ⟨"ReportCausesModel", "find", "(III)I"⟩
abbrev cK5_first : ByteArray := prog_7_method_26_code
abbrev yK5_first : MethodName := ⟨"ReportCausesModel", "first", "(I)V"⟩
abbrev cK5_setOf : ByteArray := prog_7_method_27_code
abbrev yK5_setOf : MethodName := ⟨"ReportCausesModel", "setOf", "(I)I"⟩
abbrev cK5_hasOneWithin : ByteArray := prog_7_method_31_code
abbrev yK5_hasOneWithin : MethodName := ⟨"ReportCausesModel", "hasOneWithin", "(I)Z"⟩
abbrev cK5_look : ByteArray := prog_7_method_33_code
abbrev yK5_look : MethodName := ⟨"ReportCausesModel", "look", "(III)V"⟩
abbrev cK5_next : ByteArray := prog_7_method_28_code
abbrev yK5_next : MethodName := ⟨"ReportCausesModel", "next", "(I)Z"⟩
abbrev cK5_sort : ByteArray := prog_7_method_34_code
abbrev yK5_sort : MethodName := ⟨"ReportCausesModel", "sort", "()V"⟩
abbrev cK5_weightOf : ByteArray := prog_7_method_29_code
abbrev yK5_weightOf : MethodName := ⟨"ReportCausesModel", "weightOf", "(I)I"⟩
abbrev cK5_sizeOf : ByteArray := prog_7_method_30_code
abbrev yK5_sizeOf : MethodName := ⟨"ReportCausesModel", "sizeOf", "(I)I"⟩
abbrev cK5_cover : ByteArray := prog_7_method_35_code
abbrev yK5_cover : MethodName := ⟨"ReportCausesModel", "cover", "(I)I"⟩
abbrev cK5_weigh : ByteArray := prog_7_method_36_code
abbrev yK5_weigh : MethodName := ⟨"ReportCausesModel", "weigh", "(I)V"⟩
abbrev cK5_settled : ByteArray := prog_7_method_37_code
abbrev yK5_settled : MethodName := ⟨"ReportCausesModel", "settled", "()Z"⟩
abbrev cK5_tried : ByteArray := prog_7_method_38_code
abbrev yK5_tried : MethodName := ⟨"ReportCausesModel", "tried", "()I"⟩
abbrev cK5_set : ByteArray := prog_7_method_41_code
abbrev yK5_set : MethodName := ⟨"ReportCausesModel", "set", "(II)I"⟩
abbrev cK5_isFound : ByteArray := prog_7_method_40_code
abbrev yK5_isFound : MethodName := ⟨"ReportCausesModel", "isFound", "(I)Z"⟩
abbrev cK5_member : ByteArray := prog_7_method_39_code
abbrev yK5_member : MethodName := ⟨"ReportCausesModel", "member", "(II)I"⟩
abbrev cK5_weight : ByteArray := prog_7_method_42_code
abbrev yK5_weight : MethodName := ⟨"ReportCausesModel", "weight", "(I)I"⟩
abbrev cK5_breaks : ByteArray := prog_7_method_43_code
abbrev yK5_breaks : MethodName := ⟨"ReportCausesModel", "breaks", "(II)I"⟩
abbrev cK5_apply : ByteArray := prog_7_method_44_code
abbrev yK5_apply : MethodName := ⟨"ReportCausesModel", "apply", "(I)I"⟩
abbrev cK5_covered : ByteArray := prog_7_method_45_code
abbrev yK5_covered : MethodName := ⟨"ReportCausesModel", "covered", "(I)I"⟩
abbrev cK5_sentence : ByteArray := prog_7_method_48_code
abbrev yK5_sentence : MethodName := ⟨"ReportCausesModel", "sentence", "(I)I"⟩
abbrev cK5_tell : ByteArray := prog_7_method_46_code
abbrev yK5_tell : MethodName := ⟨"ReportCausesModel", "tell", "(I)V"⟩
abbrev cK5_tellNumber : ByteArray := prog_7_method_47_code
abbrev yK5_tellNumber : MethodName := ⟨"ReportCausesModel", "tellNumber", "(I)V"⟩
abbrev cK5_letter : ByteArray := prog_7_method_49_code
abbrev yK5_letter : MethodName := ⟨"ReportCausesModel", "letter", "(I)I"⟩
/-- the tables' words that a callee may be given -/
def ALLW : List Cond := lw_tbl.filter goodWord
abbrev wsK0_init : List Cond := Cond.code yK0_init cK0_init 1 none :: ALLW
abbrev wsK1_init : List Cond := Cond.code yK1_init cK1_init 1 none :: ALLW
abbrev wsK2_init : List Cond := Cond.code yK2_init cK2_init 1 none :: ALLW
abbrev wsK3_init : List Cond := Cond.code yK3_init cK3_init 1 none :: ALLW
abbrev wsK4_init : List Cond := Cond.code yK4_init cK4_init 1 none :: ALLW
abbrev wsK6_init : List Cond := Cond.code yK6_init cK6_init 1 none :: ALLW
abbrev wsJ1_init : List Cond := Cond.code yJ1_init cJ1_init 2 none :: ALLW
abbrev wsJ5_newBytesFor : List Cond := Cond.code yJ5_newBytesFor cJ5_newBytesFor 1 (some (.array .byte)) :: ALLW
abbrev wsJ5_newBytesLength : List Cond := Cond.code yJ5_newBytesLength cJ5_newBytesLength 1 (some .int) :: ALLW
abbrev wsK0_triple : List Cond := Cond.code yK0_triple cK0_triple 4 (some .int) :: ALLW
abbrev wsK0_putOrTake : List Cond := Cond.code yK0_putOrTake cK0_putOrTake 5 (some .int) :: ALLW
abbrev wsK0_isTriple : List Cond := Cond.code yK0_isTriple cK0_isTriple 3 (some .boolean) :: ALLW
abbrev wsK0_isNode : List Cond := Cond.code yK0_isNode cK0_isNode 1 (some .boolean) :: ALLW
abbrev wsK0_isPredicate : List Cond := Cond.code yK0_isPredicate cK0_isPredicate 1 (some .boolean) :: ALLW
abbrev wsK1_has : List Cond := Cond.code yK1_has cK1_has 4 (some .boolean) :: ALLW
abbrev wsK1_objectsOf : List Cond := Cond.code yK1_objectsOf cK1_objectsOf 3 (some .int) :: ALLW
abbrev wsK0_hasMember : List Cond := Cond.code yK0_hasMember cK0_hasMember 2 (some .boolean) :: ALLW
abbrev wsK0_codeOf : List Cond := Cond.code yK0_codeOf cK0_codeOf 3 (some .int) :: ALLW
abbrev wsK1_alter : List Cond := Cond.code yK1_alter cK1_alter 6 none :: ALLW
abbrev wsK1_sortIntoClasses : List Cond := Cond.code yK1_sortIntoClasses cK1_sortIntoClasses 4 none :: ALLW
abbrev wsJ6_fill_aIIV : List Cond := Cond.code yJ6_fill_aIIV cJ6_fill_aIIV 4 none :: ALLW
abbrev wsK1_classesOf : List Cond := Cond.code yK1_classesOf cK1_classesOf 6 (some .int) :: ALLW
abbrev wsK1_least : List Cond := Cond.code yK1_least cK1_least 1 (some .int) :: ALLW
abbrev wsJ2_numberOfTrailingZeros : List Cond := Cond.code yJ2_numberOfTrailingZeros cJ2_numberOfTrailingZeros 2 (some .int) :: ALLW
abbrev wsJ9_min : List Cond := Cond.code yJ9_min cJ9_min 2 (some .int) :: ALLW
abbrev wsK0_drop : List Cond := Cond.code yK0_drop cK0_drop 4 (some .int) :: ALLW
abbrev wsK0_rule : List Cond := Cond.code yK0_rule cK0_rule 5 (some .int) :: ALLW
abbrev wsK0_fitsKind : List Cond := Cond.code yK0_fitsKind cK0_fitsKind 2 (some .boolean) :: ALLW
abbrev wsK2_add : List Cond := Cond.code yK2_add cK2_add 5 (some .int) :: ALLW
abbrev wsK0_results : List Cond := Cond.code yK0_results cK0_results 3 (some .int) :: ALLW
abbrev wsK2_failing : List Cond := Cond.code yK2_failing cK2_failing 6 (some .int) :: ALLW
abbrev wsK1_membersOf : List Cond := Cond.code yK1_membersOf cK1_membersOf 2 (some .int) :: ALLW
abbrev wsK2_holds : List Cond := Cond.code yK2_holds cK2_holds 6 (some .boolean) :: ALLW
abbrev wsJ2_bitCount : List Cond := Cond.code yJ2_bitCount cJ2_bitCount 1 (some .int) :: ALLW
abbrev wsK0_result : List Cond := Cond.code yK0_result cK0_result 2 (some .int) :: ALLW
abbrev wsK0_nthResult : List Cond := Cond.code yK0_nthResult cK0_nthResult 7 (some .int) :: ALLW
abbrev wsK0_nthMember : List Cond := Cond.code yK0_nthMember cK0_nthMember 4 (some .int) :: ALLW
abbrev wsK0_isOf : List Cond := Cond.code yK0_isOf cK0_isOf 3 (some .int) :: ALLW
abbrev wsK1_isMember : List Cond := Cond.code yK1_isMember cK1_isMember 3 (some .boolean) :: ALLW
abbrev wsK0_reason : List Cond := Cond.code yK0_reason cK0_reason 4 (some .int) :: ALLW
abbrev wsK1_nthOfReason : List Cond := Cond.code yK1_nthOfReason cK1_nthOfReason 9 (some .int) :: ALLW
abbrev wsK1_fewestBelows : List Cond := Cond.code yK1_fewestBelows cK1_fewestBelows 6 (some .int) :: ALLW
abbrev wsK1_leadingInto : List Cond := Cond.code yK1_leadingInto cK1_leadingInto 4 (some .int) :: ALLW
abbrev wsK0_change : List Cond := Cond.code yK0_change cK0_change 6 (some .int) :: ALLW
abbrev wsK3_add : List Cond := Cond.code yK3_add cK3_add 5 (some .int) :: ALLW
abbrev wsK0_suggest : List Cond := Cond.code yK0_suggest cK0_suggest 6 (some .int) :: ALLW
abbrev wsK2_has : List Cond := Cond.code yK2_has cK2_has 2 (some .boolean) :: ALLW
abbrev wsK2_fails : List Cond := Cond.code yK2_fails cK2_fails 4 (some .boolean) :: ALLW
abbrev wsK0_offer : List Cond := Cond.code yK0_offer cK0_offer 5 none :: ALLW
abbrev wsK0_offerAbout : List Cond := Cond.code yK0_offerAbout cK0_offerAbout 7 none :: ALLW
abbrev wsK0_clear : List Cond := Cond.code yK0_clear cK0_clear 2 (some .int) :: ALLW
abbrev wsK3_forget : List Cond := Cond.code yK3_forget cK3_forget 1 none :: ALLW
abbrev wsK4_forget : List Cond := Cond.code yK4_forget cK4_forget 1 none :: ALLW
abbrev wsK0_tries : List Cond := Cond.code yK0_tries cK0_tries 2 (some .int) :: ALLW
abbrev wsK0_find : List Cond := Cond.code yK0_find cK0_find 4 (some .int) :: ALLW
abbrev wsK0_findSets : List Cond := Cond.code yK0_findSets cK0_findSets 6 none :: ALLW
abbrev wsK0_nextSet : List Cond := Cond.code yK0_nextSet cK0_nextSet 7 (some .int) :: ALLW
abbrev wsJ2_numberOfLeadingZeros : List Cond := Cond.code yJ2_numberOfLeadingZeros cJ2_numberOfLeadingZeros 2 (some .int) :: ALLW
abbrev wsK4_hasPartOf : List Cond := Cond.code yK4_hasPartOf cK4_hasPartOf 3 (some .boolean) :: ALLW
abbrev wsK0_tryOut : List Cond := Cond.code yK0_tryOut cK0_tryOut 2 none :: ALLW
abbrev wsK1_copyFrom : List Cond := Cond.code yK1_copyFrom cK1_copyFrom 2 none :: ALLW
abbrev wsK3_doAll : List Cond := Cond.code yK3_doAll cK3_doAll 4 none :: ALLW
abbrev wsK3_weightOf : List Cond := Cond.code yK3_weightOf cK3_weightOf 4 (some .int) :: ALLW
abbrev wsK4_add : List Cond := Cond.code yK4_add cK4_add 4 none :: ALLW
abbrev wsK0_settled : List Cond := Cond.code yK0_settled cK0_settled 1 (some .boolean) :: ALLW
abbrev wsK0_tried : List Cond := Cond.code yK0_tried cK0_tried 1 (some .int) :: ALLW
abbrev wsK0_set : List Cond := Cond.code yK0_set cK0_set 3 (some .int) :: ALLW
abbrev wsK4_at : List Cond := Cond.code yK4_at cK4_at 2 (some .int) :: ALLW
abbrev wsK0_weight : List Cond := Cond.code yK0_weight cK0_weight 3 (some .int) :: ALLW
abbrev wsK0_breaks : List Cond := Cond.code yK0_breaks cK0_breaks 4 (some .int) :: ALLW
abbrev wsK0_apply : List Cond := Cond.code yK0_apply cK0_apply 3 (some .int) :: ALLW
abbrev wsK0_cover : List Cond := Cond.code yK0_cover cK0_cover 3 (some .int) :: ALLW
abbrev wsK0_lightestCover : List Cond := Cond.code yK0_lightestCover cK0_lightestCover 7 (some .int) :: ALLW
abbrev wsK0_putsAllRight : List Cond := Cond.code yK0_putsAllRight cK0_putsAllRight 3 (some .boolean) :: ALLW
abbrev wsK0_covered : List Cond := Cond.code yK0_covered cK0_covered 2 (some .int) :: ALLW
abbrev wsK0_sentence : List Cond := Cond.code yK0_sentence cK0_sentence 4 (some .int) :: ALLW
abbrev wsK6_setLength : List Cond := Cond.code yK6_setLength cK6_setLength 2 none :: ALLW
abbrev wsJ1_setLength : List Cond := Cond.code yJ1_setLength cJ1_setLength 2 none :: ALLW
abbrev wsJ1_ensureCapacityInternal : List Cond := Cond.code yJ1_ensureCapacityInternal cJ1_ensureCapacityInternal 3 none :: ALLW
abbrev wsJ1_newCapacity : List Cond := Cond.code yJ1_newCapacity cJ1_newCapacity 6 (some .int) :: ALLW
abbrev wsJ7_newLength : List Cond := Cond.code yJ7_newLength cJ7_newLength 4 (some .int) :: ALLW
abbrev wsJ9_max : List Cond := Cond.code yJ9_max cJ9_max 2 (some .int) :: ALLW
abbrev wsJ7_hugeLength : List Cond := Cond.code yJ7_hugeLength cJ7_hugeLength 3 (some .int) :: ALLW
abbrev wsJ6_copyOf : List Cond := Cond.code yJ6_copyOf cJ6_copyOf 3 (some (.array .byte)) :: ALLW
abbrev wsJ1_isLatin1 : List Cond := Cond.code yJ1_isLatin1 cJ1_isLatin1 1 (some .boolean) :: ALLW
abbrev wsJ4_fillNull : List Cond := Cond.code yJ4_fillNull cJ4_fillNull 3 none :: ALLW
abbrev wsJ6_fill_aBIIBV : List Cond := Cond.code yJ6_fill_aBIIBV cJ6_fill_aBIIBV 5 none :: ALLW
abbrev wsJ6_rangeCheck : List Cond := Cond.code yJ6_rangeCheck cJ6_rangeCheck 3 none :: ALLW
abbrev wsJ5_fillNull : List Cond := Cond.code yJ5_fillNull cJ5_fillNull 3 none :: ALLW
abbrev wsK6_length : List Cond := Cond.code yK6_length cK6_length 1 (some .int) :: ALLW
abbrev wsJ1_length : List Cond := Cond.code yJ1_length cJ1_length 1 (some .int) :: ALLW
abbrev wsK6_append_LStringLStringBuilder : List Cond := Cond.code yK6_append_LStringLStringBuilder cK6_append_LStringLStringBuilder 2 (some (.object "java/lang/StringBuilder")) :: ALLW
abbrev wsJ1_append_LStringLAbstractStringBuilder : List Cond := Cond.code yJ1_append_LStringLAbstractStringBuilder cJ1_append_LStringLAbstractStringBuilder 3 (some (.object "java/lang/AbstractStringBuilder")) :: ALLW
abbrev wsJ1_appendNull : List Cond := Cond.code yJ1_appendNull cJ1_appendNull 3 (some (.object "java/lang/AbstractStringBuilder")) :: ALLW
abbrev wsJ5_putCharsAt : List Cond := Cond.code yJ5_putCharsAt cJ5_putCharsAt 7 (some .int) :: ALLW
abbrev wsJ5_checkBoundsBeginEnd : List Cond := Cond.code yJ5_checkBoundsBeginEnd cJ5_checkBoundsBeginEnd 3 none :: ALLW
abbrev wsJ5_length : List Cond := Cond.code yJ5_length cJ5_length 1 (some .int) :: ALLW
abbrev wsJ3_checkBoundsBeginEnd : List Cond := Cond.code yJ3_checkBoundsBeginEnd cJ3_checkBoundsBeginEnd 3 none :: ALLW
abbrev wsJ8_checkFromToIndex : List Cond := Cond.code yJ8_checkFromToIndex cJ8_checkFromToIndex 4 (some .int) :: ALLW
abbrev wsJ5_putChar : List Cond := Cond.code yJ5_putChar cJ5_putChar 3 none :: ALLW
abbrev wsJ3_length : List Cond := Cond.code yJ3_length cJ3_length 1 (some .int) :: ALLW
abbrev wsJ3_coder : List Cond := Cond.code yJ3_coder cJ3_coder 1 (some .byte) :: ALLW
abbrev wsJ1_putStringAt : List Cond := Cond.code yJ1_putStringAt cJ1_putStringAt 3 none :: ALLW
abbrev wsJ1_inflateIfNeededFor : List Cond := Cond.code yJ1_inflateIfNeededFor cJ1_inflateIfNeededFor 2 none :: ALLW
abbrev wsJ1_inflate : List Cond := Cond.code yJ1_inflate cJ1_inflate 2 none :: ALLW
abbrev wsJ4_inflate : List Cond := Cond.code yJ4_inflate cJ4_inflate 5 none :: ALLW
abbrev wsJ5_inflate : List Cond := Cond.code yJ5_inflate cJ5_inflate 6 none :: ALLW
abbrev wsJ5_checkBoundsOffCount : List Cond := Cond.code yJ5_checkBoundsOffCount cJ5_checkBoundsOffCount 3 none :: ALLW
abbrev wsJ3_checkBoundsOffCount : List Cond := Cond.code yJ3_checkBoundsOffCount cJ3_checkBoundsOffCount 3 (some .int) :: ALLW
abbrev wsJ8_checkFromIndexSize : List Cond := Cond.code yJ8_checkFromIndexSize cJ8_checkFromIndexSize 4 (some .int) :: ALLW
abbrev wsJ3_getBytes : List Cond := Cond.code yJ3_getBytes cJ3_getBytes 4 none :: ALLW
abbrev wsK3_tell : List Cond := Cond.code yK3_tell cK3_tell 3 none :: ALLW
abbrev wsK6_append_ILStringBuilder : List Cond := Cond.code yK6_append_ILStringBuilder cK6_append_ILStringBuilder 2 (some (.object "java/lang/StringBuilder")) :: ALLW
abbrev wsJ1_append_ILAbstractStringBuilder : List Cond := Cond.code yJ1_append_ILAbstractStringBuilder cJ1_append_ILAbstractStringBuilder 4 (some (.object "java/lang/AbstractStringBuilder")) :: ALLW
abbrev wsJ2_stringSize : List Cond := Cond.code yJ2_stringSize cJ2_stringSize 4 (some .int) :: ALLW
abbrev wsJ2_getChars : List Cond := Cond.code yJ2_getChars cJ2_getChars 7 (some .int) :: ALLW
abbrev wsJ5_getChars_IIIaBI : List Cond := Cond.code yJ5_getChars_IIIaBI cJ5_getChars_IIIaBI 5 (some .int) :: ALLW
abbrev wsJ5_getChars_IIaBI : List Cond := Cond.code yJ5_getChars_IIaBI cJ5_getChars_IIaBI 7 (some .int) :: ALLW
abbrev wsK6_append_CLStringBuilder : List Cond := Cond.code yK6_append_CLStringBuilder cK6_append_CLStringBuilder 2 (some (.object "java/lang/StringBuilder")) :: ALLW
abbrev wsJ1_append_CLAbstractStringBuilder : List Cond := Cond.code yJ1_append_CLAbstractStringBuilder cJ1_append_CLAbstractStringBuilder 2 (some (.object "java/lang/AbstractStringBuilder")) :: ALLW
abbrev wsJ4_canEncode : List Cond := Cond.code yJ4_canEncode cJ4_canEncode 1 (some .boolean) :: ALLW
abbrev wsJ5_putCharSB : List Cond := Cond.code yJ5_putCharSB cJ5_putCharSB 3 none :: ALLW
abbrev wsJ5_checkIndex : List Cond := Cond.code yJ5_checkIndex cJ5_checkIndex 2 none :: ALLW
abbrev wsJ3_checkIndex : List Cond := Cond.code yJ3_checkIndex cJ3_checkIndex 2 none :: ALLW
abbrev wsJ8_checkIndex : List Cond := Cond.code yJ8_checkIndex cJ8_checkIndex 3 (some .int) :: ALLW
abbrev wsK0_letter : List Cond := Cond.code yK0_letter cK0_letter 2 (some .int) :: ALLW
abbrev wsK6_charAt : List Cond := Cond.code yK6_charAt cK6_charAt 2 (some .char) :: ALLW
abbrev wsJ1_charAt : List Cond := Cond.code yJ1_charAt cJ1_charAt 5 (some .char) :: ALLW
abbrev wsJ5_getChar : List Cond := Cond.code yJ5_getChar cJ5_getChar 2 (some .char) :: ALLW
abbrev wsK5_init : List Cond := Cond.code yK5_init cK5_init 1 none :: ALLW
abbrev wsK5_triple : List Cond := Cond.code yK5_triple cK5_triple 5 (some .int) :: ALLW
abbrev wsK5_isTriple : List Cond := Cond.code yK5_isTriple cK5_isTriple 3 (some .boolean) :: ALLW
abbrev wsK5_in : List Cond := Cond.code yK5_in cK5_in 3 (some .boolean) :: ALLW
abbrev wsK5_codeOf : List Cond := Cond.code yK5_codeOf cK5_codeOf 3 (some .int) :: ALLW
abbrev wsK5_drop : List Cond := Cond.code yK5_drop cK5_drop 5 (some .int) :: ALLW
abbrev wsK5_rule : List Cond := Cond.code yK5_rule cK5_rule 6 (some .int) :: ALLW
abbrev wsK5_results : List Cond := Cond.code yK5_results cK5_results 1 (some .int) :: ALLW
abbrev wsK5_begin : List Cond := Cond.code yK5_begin cK5_begin 3 none :: ALLW
abbrev wsK5_resultsNow : List Cond := Cond.code yK5_resultsNow cK5_resultsNow 4 (some .int) :: ALLW
abbrev wsK5_isResult : List Cond := Cond.code yK5_isResult cK5_isResult 3 (some .boolean) :: ALLW
abbrev wsK5_isOfNow : List Cond := Cond.code yK5_isOfNow cK5_isOfNow 6 (some .boolean) :: ALLW
abbrev wsK5_holds : List Cond := Cond.code yK5_holds cK5_holds 9 (some .boolean) :: ALLW
abbrev wsK5_result : List Cond := Cond.code yK5_result cK5_result 5 (some .int) :: ALLW
abbrev wsK5_isOf : List Cond := Cond.code yK5_isOf cK5_isOf 3 (some .int) :: ALLW
abbrev wsK5_reason : List Cond := Cond.code yK5_reason cK5_reason 9 (some .int) :: ALLW
abbrev wsK5_measure : List Cond := Cond.code yK5_measure cK5_measure 5 none :: ALLW
abbrev wsK5_change : List Cond := Cond.code yK5_change cK5_change 6 (some .int) :: ALLW
abbrev wsK5_isThere : List Cond := Cond.code yK5_isThere cK5_isThere 5 (some .boolean) :: ALLW
abbrev wsK5_enter : List Cond := Cond.code yK5_enter cK5_enter 4 none :: ALLW
abbrev wsK5_suggest : List Cond := Cond.code yK5_suggest cK5_suggest 9 (some .int) :: ALLW
abbrev wsK5_isPair : List Cond := Cond.code yK5_isPair cK5_isPair 3 (some .boolean) :: ALLW
abbrev wsK5_offer : List Cond := Cond.code yK5_offer cK5_offer 3 none :: ALLW
abbrev wsK5_clear : List Cond := Cond.code yK5_clear cK5_clear 2 (some .int) :: ALLW
abbrev wsK5_tries : List Cond := Cond.code yK5_tries cK5_tries 2 (some .int) :: ALLW
abbrev wsK5_find : List Cond := Cond.code yK5_find cK5_find 7 (some .int) :: ALLW
abbrev wsK5_first : List Cond := Cond.code yK5_first cK5_first 3 none :: ALLW
abbrev wsK5_setOf : List Cond := Cond.code yK5_setOf cK5_setOf 4 (some .int) :: ALLW
abbrev wsK5_hasOneWithin : List Cond := Cond.code yK5_hasOneWithin cK5_hasOneWithin 4 (some .boolean) :: ALLW
abbrev wsK5_look : List Cond := Cond.code yK5_look cK5_look 4 none :: ALLW
abbrev wsK5_next : List Cond := Cond.code yK5_next cK5_next 4 (some .boolean) :: ALLW
abbrev wsK5_sort : List Cond := Cond.code yK5_sort cK5_sort 5 none :: ALLW
abbrev wsK5_weightOf : List Cond := Cond.code yK5_weightOf cK5_weightOf 4 (some .int) :: ALLW
abbrev wsK5_sizeOf : List Cond := Cond.code yK5_sizeOf cK5_sizeOf 3 (some .int) :: ALLW
abbrev wsK5_cover : List Cond := Cond.code yK5_cover cK5_cover 4 (some .int) :: ALLW
abbrev wsK5_weigh : List Cond := Cond.code yK5_weigh cK5_weigh 3 none :: ALLW
abbrev wsK5_settled : List Cond := Cond.code yK5_settled cK5_settled 1 (some .boolean) :: ALLW
abbrev wsK5_tried : List Cond := Cond.code yK5_tried cK5_tried 1 (some .int) :: ALLW
abbrev wsK5_set : List Cond := Cond.code yK5_set cK5_set 3 (some .int) :: ALLW
abbrev wsK5_isFound : List Cond := Cond.code yK5_isFound cK5_isFound 2 (some .boolean) :: ALLW
abbrev wsK5_member : List Cond := Cond.code yK5_member cK5_member 4 (some .int) :: ALLW
abbrev wsK5_weight : List Cond := Cond.code yK5_weight cK5_weight 2 (some .int) :: ALLW
abbrev wsK5_breaks : List Cond := Cond.code yK5_breaks cK5_breaks 7 (some .int) :: ALLW
abbrev wsK5_apply : List Cond := Cond.code yK5_apply cK5_apply 3 (some .int) :: ALLW
abbrev wsK5_covered : List Cond := Cond.code yK5_covered cK5_covered 2 (some .int) :: ALLW
abbrev wsK5_sentence : List Cond := Cond.code yK5_sentence cK5_sentence 3 (some .int) :: ALLW
abbrev wsK5_tell : List Cond := Cond.code yK5_tell cK5_tell 2 none :: ALLW
abbrev wsK5_tellNumber : List Cond := Cond.code yK5_tellNumber cK5_tellNumber 2 none :: ALLW
abbrev wsK5_letter : List Cond := Cond.code yK5_letter cK5_letter 2 (some .int) :: ALLW
end
section
theorem wt1 {w : Cond} (h : w ∈ tables_1_1) (hg : goodWord w = true) : w ∈ ALLW := List.mem_filter.mpr ⟨List.mem_append_right _ (show w ∈ tables_1 from List.mem_append_left _ h), hg⟩
theorem wt2 {w : Cond} (h : w ∈ tables_1_2) (hg : goodWord w = true) : w ∈ ALLW := List.mem_filter.mpr ⟨List.mem_append_right _ (show w ∈ tables_1 from List.mem_append_right _ (List.mem_append_left _ h)), hg⟩
theorem wt3 {w : Cond} (h : w ∈ tables_1_3) (hg : goodWord w = true) : w ∈ ALLW := List.mem_filter.mpr ⟨List.mem_append_right _ (show w ∈ tables_1 from List.mem_append_right _ (List.mem_append_right _ (List.mem_append_left _ h))), hg⟩
theorem wt4 {w : Cond} (h : w ∈ tables_1_4) (hg : goodWord w = true) : w ∈ ALLW := List.mem_filter.mpr ⟨List.mem_append_right _ (show w ∈ tables_1 from List.mem_append_right _ (List.mem_append_right _ (List.mem_append_right _ (h)))), hg⟩
theorem wp1 {q : MethodName × Nat} (h : q ∈ lw_privs_1) : Cond.selects q.1.cls q.1 q.1 ∈ ALLW := List.mem_filter.mpr ⟨List.mem_append_left _ (List.mem_map.mpr ⟨q, (show q ∈ lw_privs from List.mem_append_left _ h), rfl⟩), rfl⟩
theorem wp2 {q : MethodName × Nat} (h : q ∈ lw_privs_2) : Cond.selects q.1.cls q.1 q.1 ∈ ALLW := List.mem_filter.mpr ⟨List.mem_append_left _ (List.mem_map.mpr ⟨q, (show q ∈ lw_privs from List.mem_append_right _ (List.mem_append_left _ h)), rfl⟩), rfl⟩
theorem wp3 {q : MethodName × Nat} (h : q ∈ lw_privs_3) : Cond.selects q.1.cls q.1 q.1 ∈ ALLW := List.mem_filter.mpr ⟨List.mem_append_left _ (List.mem_map.mpr ⟨q, (show q ∈ lw_privs from List.mem_append_right _ (List.mem_append_right _ (h))), rfl⟩), rfl⟩
theorem wdt1_31 : Cond.methodLink "ReportCauses$Triples" 3 ⟨"java/lang/Object", "<init>", "()V"⟩ ∈ ALLW := wt1 (List.mem_of_getElem? (i := 31) (by decide +kernel)) rfl
theorem wdt1_24 : Cond.instanceMethod ⟨"java/lang/Object", "<init>", "()V"⟩ ∈ ALLW := wt1 (List.mem_of_getElem? (i := 24) (by decide +kernel)) rfl
theorem wdt1_25 : Cond.code objectInit ⟨#[0xb1]⟩ 1 none ∈ ALLW := wt1 (List.mem_of_getElem? (i := 25) rfl) rfl
theorem wdt1_45 : Cond.arrayClass .int ∈ ALLW := wt1 (List.mem_of_getElem? (i := 45) (by decide +kernel)) rfl
theorem wdt1_32 : Cond.fieldLink "ReportCauses$Triples" 9 "ReportCauses$Triples" "objects" "[I" ∈ ALLW := wt1 (List.mem_of_getElem? (i := 32) (by decide +kernel)) rfl
theorem wdt1_33 : Cond.fieldLink "ReportCauses$Triples" 15 "ReportCauses$Triples" "members" "[I" ∈ ALLW := wt1 (List.mem_of_getElem? (i := 33) (by decide +kernel)) rfl
theorem wdt1_34 : Cond.fieldLink "ReportCauses$Triples" 18 "ReportCauses$Triples" "within" "[I" ∈ ALLW := wt1 (List.mem_of_getElem? (i := 34) (by decide +kernel)) rfl
theorem wdt1_35 : Cond.fieldLink "ReportCauses$Triples" 21 "ReportCauses$Triples" "isSorted" "Z" ∈ ALLW := wt1 (List.mem_of_getElem? (i := 35) (by decide +kernel)) rfl
theorem wdt1_51 : Cond.methodLink "ReportCauses$Rules" 3 ⟨"java/lang/Object", "<init>", "()V"⟩ ∈ ALLW := wt1 (List.mem_of_getElem? (i := 51) (by decide +kernel)) rfl
theorem wdt1_52 : Cond.fieldLink "ReportCauses$Rules" 9 "ReportCauses$Rules" "kind" "[I" ∈ ALLW := wt1 (List.mem_of_getElem? (i := 52) (by decide +kernel)) rfl
theorem wdt1_54 : Cond.fieldLink "ReportCauses$Rules" 15 "ReportCauses$Rules" "target" "[I" ∈ ALLW := wt1 (List.mem_of_getElem? (i := 54) (by decide +kernel)) rfl
theorem wdt1_56 : Cond.fieldLink "ReportCauses$Rules" 18 "ReportCauses$Rules" "predicate" "[I" ∈ ALLW := wt1 (List.mem_of_getElem? (i := 56) (by decide +kernel)) rfl
theorem wdt1_58 : Cond.fieldLink "ReportCauses$Rules" 21 "ReportCauses$Rules" "number" "[I" ∈ ALLW := wt1 (List.mem_of_getElem? (i := 58) (by decide +kernel)) rfl
theorem wdt1_60 : Cond.fieldLink "ReportCauses$Rules" 24 "ReportCauses$Rules" "count" "I" ∈ ALLW := wt1 (List.mem_of_getElem? (i := 60) (by decide +kernel)) rfl
theorem wdt1_78 : Cond.methodLink "ReportCauses$Changes" 3 ⟨"java/lang/Object", "<init>", "()V"⟩ ∈ ALLW := wt1 (List.mem_of_getElem? (i := 78) (by decide +kernel)) rfl
theorem wdt1_93 : Cond.arrayClass .boolean ∈ ALLW := wt1 (List.mem_of_getElem? (i := 93) (by decide +kernel)) rfl
theorem wdt1_79 : Cond.fieldLink "ReportCauses$Changes" 9 "ReportCauses$Changes" "puts" "[Z" ∈ ALLW := wt1 (List.mem_of_getElem? (i := 79) (by decide +kernel)) rfl
theorem wdt1_80 : Cond.fieldLink "ReportCauses$Changes" 15 "ReportCauses$Changes" "code" "[I" ∈ ALLW := wt1 (List.mem_of_getElem? (i := 80) (by decide +kernel)) rfl
theorem wdt1_81 : Cond.fieldLink "ReportCauses$Changes" 19 "ReportCauses$Changes" "weighs" "[I" ∈ ALLW := wt1 (List.mem_of_getElem? (i := 81) (by decide +kernel)) rfl
theorem wdt1_82 : Cond.fieldLink "ReportCauses$Changes" 22 "ReportCauses$Changes" "count" "I" ∈ ALLW := wt1 (List.mem_of_getElem? (i := 82) (by decide +kernel)) rfl
theorem wdt1_99 : Cond.methodLink "ReportCauses$Findings" 3 ⟨"java/lang/Object", "<init>", "()V"⟩ ∈ ALLW := wt1 (List.mem_of_getElem? (i := 99) (by decide +kernel)) rfl
theorem wdt1_100 : Cond.fieldLink "ReportCauses$Findings" 9 "ReportCauses$Findings" "sets" "[I" ∈ ALLW := wt1 (List.mem_of_getElem? (i := 100) (by decide +kernel)) rfl
theorem wdt1_101 : Cond.fieldLink "ReportCauses$Findings" 15 "ReportCauses$Findings" "sums" "[I" ∈ ALLW := wt1 (List.mem_of_getElem? (i := 101) (by decide +kernel)) rfl
theorem wdt1_102 : Cond.fieldLink "ReportCauses$Findings" 18 "ReportCauses$Findings" "count" "I" ∈ ALLW := wt1 (List.mem_of_getElem? (i := 102) (by decide +kernel)) rfl
theorem wdt1_185 : Cond.methodLink "ReportCauses" 65 yK0_isNode ∈ ALLW := wt1 (List.mem_of_getElem? (i := 185) (by decide +kernel)) rfl
theorem wdt1_186 : Cond.static yK0_isNode ∈ ALLW := wt1 (List.mem_of_getElem? (i := 186) (by decide +kernel)) rfl
theorem wdt1_1 : Cond.initialized "ReportCauses" ∈ ALLW := wt1 (List.mem_of_getElem? (i := 1) (by decide +kernel)) rfl
theorem wdt1_188 : Cond.methodLink "ReportCauses" 69 yK0_isPredicate ∈ ALLW := wt1 (List.mem_of_getElem? (i := 188) (by decide +kernel)) rfl
theorem wdt1_189 : Cond.static yK0_isPredicate ∈ ALLW := wt1 (List.mem_of_getElem? (i := 189) (by decide +kernel)) rfl
theorem wdt1_195 : Cond.methodLink "ReportCauses$Triples" 25 yK1_objectsOf ∈ ALLW := wt1 (List.mem_of_getElem? (i := 195) (by decide +kernel)) rfl
theorem wdt1_196 : Cond.instanceMethod yK1_objectsOf ∈ ALLW := wt1 (List.mem_of_getElem? (i := 196) (by decide +kernel)) rfl
theorem wdt1_197 : Cond.selects "ReportCauses$Triples" yK1_objectsOf yK1_objectsOf ∈ ALLW := wt1 (List.mem_of_getElem? (i := 197) (by decide +kernel)) rfl
theorem wdt1_2 : Cond.initialized "ReportCauses$Triples" ∈ ALLW := wt1 (List.mem_of_getElem? (i := 2) (by decide +kernel)) rfl
theorem wdt1_200 : Cond.static yK0_hasMember ∈ ALLW := wt1 (List.mem_of_getElem? (i := 200) (by decide +kernel)) rfl
theorem wdt1_226 : Cond.constant "java/lang/Integer" 264 65536 ∈ ALLW := wt1 (List.mem_of_getElem? (i := 226) (by decide +kernel)) rfl
theorem wdt1_223 : Cond.methodLink "ReportCauses$Triples" 62 yJ2_numberOfTrailingZeros ∈ ALLW := wt1 (List.mem_of_getElem? (i := 223) (by decide +kernel)) rfl
theorem wdt1_224 : Cond.static yJ2_numberOfTrailingZeros ∈ ALLW := wt1 (List.mem_of_getElem? (i := 224) (by decide +kernel)) rfl
theorem wdt1_12 : Cond.initialized "java/lang/Integer" ∈ ALLW := wt1 (List.mem_of_getElem? (i := 12) (by decide +kernel)) rfl
theorem wdt1_227 : Cond.methodLink "ReportCauses$Triples" 67 yJ9_min ∈ ALLW := wt1 (List.mem_of_getElem? (i := 227) (by decide +kernel)) rfl
theorem wdt1_228 : Cond.static yJ9_min ∈ ALLW := wt1 (List.mem_of_getElem? (i := 228) (by decide +kernel)) rfl
theorem wdt1_13 : Cond.initialized "java/lang/Math" ∈ ALLW := wt1 (List.mem_of_getElem? (i := 13) (by decide +kernel)) rfl
theorem wdt1_229 : Cond.code yJ9_min cJ9_min 2 (some .int) ∈ ALLW := wt1 (List.mem_of_getElem? (i := 229) rfl) rfl
theorem wdt1_220 : Cond.methodLink "ReportCauses$Triples" 52 yK1_least ∈ ALLW := wt1 (List.mem_of_getElem? (i := 220) (by decide +kernel)) rfl
theorem wdt1_221 : Cond.static yK1_least ∈ ALLW := wt1 (List.mem_of_getElem? (i := 221) (by decide +kernel)) rfl
theorem wdt1_213 : Cond.methodLink "ReportCauses$Triples" 39 yJ6_fill_aIIV ∈ ALLW := wt1 (List.mem_of_getElem? (i := 213) (by decide +kernel)) rfl
theorem wdt1_214 : Cond.static yJ6_fill_aIIV ∈ ALLW := wt1 (List.mem_of_getElem? (i := 214) (by decide +kernel)) rfl
theorem wdt1_11 : Cond.initialized "java/util/Arrays" ∈ ALLW := wt1 (List.mem_of_getElem? (i := 11) (by decide +kernel)) rfl
theorem wdt1_216 : Cond.methodLink "ReportCauses$Triples" 45 yK1_classesOf ∈ ALLW := wt1 (List.mem_of_getElem? (i := 216) (by decide +kernel)) rfl
theorem wdt1_218 : Cond.instanceMethod yK1_classesOf ∈ ALLW := wt1 (List.mem_of_getElem? (i := 218) (by decide +kernel)) rfl
theorem wds1_1 : Cond.selects "ReportCauses$Triples" yK1_classesOf yK1_classesOf ∈ ALLW := wp1 (List.mem_of_getElem? (i := 1) rfl)
theorem wdt1_182 : Cond.methodLink "ReportCauses" 104 yK0_isTriple ∈ ALLW := wt1 (List.mem_of_getElem? (i := 182) (by decide +kernel)) rfl
theorem wdt1_183 : Cond.static yK0_isTriple ∈ ALLW := wt1 (List.mem_of_getElem? (i := 183) (by decide +kernel)) rfl
theorem wdt1_143 : Cond.fieldLink "ReportCauses" 12 "ReportCauses" "triples" "LReportCauses$Triples;" ∈ ALLW := wt1 (List.mem_of_getElem? (i := 143) (by decide +kernel)) rfl
theorem wdt1_191 : Cond.methodLink "ReportCauses" 126 yK1_has ∈ ALLW := wt1 (List.mem_of_getElem? (i := 191) (by decide +kernel)) rfl
theorem wdt1_192 : Cond.instanceMethod yK1_has ∈ ALLW := wt1 (List.mem_of_getElem? (i := 192) (by decide +kernel)) rfl
theorem wdt1_193 : Cond.selects "ReportCauses$Triples" yK1_has yK1_has ∈ ALLW := wt1 (List.mem_of_getElem? (i := 193) (by decide +kernel)) rfl
theorem wdt1_202 : Cond.methodLink "ReportCauses" 108 yK0_codeOf ∈ ALLW := wt1 (List.mem_of_getElem? (i := 202) (by decide +kernel)) rfl
theorem wdt1_203 : Cond.static yK0_codeOf ∈ ALLW := wt1 (List.mem_of_getElem? (i := 203) (by decide +kernel)) rfl
theorem wdt1_205 : Cond.methodLink "ReportCauses" 206 yK1_alter ∈ ALLW := wt1 (List.mem_of_getElem? (i := 205) (by decide +kernel)) rfl
theorem wdt1_206 : Cond.instanceMethod yK1_alter ∈ ALLW := wt1 (List.mem_of_getElem? (i := 206) (by decide +kernel)) rfl
theorem wdt1_207 : Cond.selects "ReportCauses$Triples" yK1_alter yK1_alter ∈ ALLW := wt1 (List.mem_of_getElem? (i := 207) (by decide +kernel)) rfl
theorem wdt1_209 : Cond.methodLink "ReportCauses" 167 yK1_sortIntoClasses ∈ ALLW := wt1 (List.mem_of_getElem? (i := 209) (by decide +kernel)) rfl
theorem wdt1_210 : Cond.instanceMethod yK1_sortIntoClasses ∈ ALLW := wt1 (List.mem_of_getElem? (i := 210) (by decide +kernel)) rfl
theorem wdt1_211 : Cond.selects "ReportCauses$Triples" yK1_sortIntoClasses yK1_sortIntoClasses ∈ ALLW := wt1 (List.mem_of_getElem? (i := 211) (by decide +kernel)) rfl
theorem wdt1_178 : Cond.methodLink "ReportCauses" 61 yK0_putOrTake ∈ ALLW := wt1 (List.mem_of_getElem? (i := 178) (by decide +kernel)) rfl
theorem wdt1_180 : Cond.instanceMethod yK0_putOrTake ∈ ALLW := wt1 (List.mem_of_getElem? (i := 180) (by decide +kernel)) rfl
theorem wds1_0 : Cond.selects "ReportCauses" yK0_putOrTake yK0_putOrTake ∈ ALLW := wp1 (List.mem_of_getElem? (i := 0) rfl)
theorem wdt1_238 : Cond.methodLink "ReportCauses" 72 yK0_fitsKind ∈ ALLW := wt1 (List.mem_of_getElem? (i := 238) (by decide +kernel)) rfl
theorem wdt1_239 : Cond.static yK0_fitsKind ∈ ALLW := wt1 (List.mem_of_getElem? (i := 239) (by decide +kernel)) rfl
theorem wdt1_145 : Cond.fieldLink "ReportCauses" 22 "ReportCauses" "rules" "LReportCauses$Rules;" ∈ ALLW := wt1 (List.mem_of_getElem? (i := 145) (by decide +kernel)) rfl
theorem wdt2_1 : Cond.methodLink "ReportCauses" 76 yK2_add ∈ ALLW := wt2 (List.mem_of_getElem? (i := 1) (by decide +kernel)) rfl
theorem wdt2_2 : Cond.instanceMethod yK2_add ∈ ALLW := wt2 (List.mem_of_getElem? (i := 2) (by decide +kernel)) rfl
theorem wdt2_3 : Cond.selects "ReportCauses$Rules" yK2_add yK2_add ∈ ALLW := wt2 (List.mem_of_getElem? (i := 3) (by decide +kernel)) rfl
theorem wdt1_3 : Cond.initialized "ReportCauses$Rules" ∈ ALLW := wt1 (List.mem_of_getElem? (i := 3) (by decide +kernel)) rfl
theorem wdt2_26 : Cond.constant "java/lang/Integer" 265 1431655765 ∈ ALLW := wt2 (List.mem_of_getElem? (i := 26) (by decide +kernel)) rfl
theorem wdt2_27 : Cond.constant "java/lang/Integer" 266 858993459 ∈ ALLW := wt2 (List.mem_of_getElem? (i := 27) (by decide +kernel)) rfl
theorem wdt2_28 : Cond.constant "java/lang/Integer" 267 252645135 ∈ ALLW := wt2 (List.mem_of_getElem? (i := 28) (by decide +kernel)) rfl
theorem wdt2_22 : Cond.methodLink "ReportCauses$Rules" 45 yK1_objectsOf ∈ ALLW := wt2 (List.mem_of_getElem? (i := 22) (by decide +kernel)) rfl
theorem wdt2_23 : Cond.methodLink "ReportCauses$Rules" 49 yJ2_bitCount ∈ ALLW := wt2 (List.mem_of_getElem? (i := 23) (by decide +kernel)) rfl
theorem wdt2_24 : Cond.static yJ2_bitCount ∈ ALLW := wt2 (List.mem_of_getElem? (i := 24) (by decide +kernel)) rfl
theorem wdt2_13 : Cond.methodLink "ReportCauses$Rules" 38 yK1_membersOf ∈ ALLW := wt2 (List.mem_of_getElem? (i := 13) (by decide +kernel)) rfl
theorem wdt2_14 : Cond.instanceMethod yK1_membersOf ∈ ALLW := wt2 (List.mem_of_getElem? (i := 14) (by decide +kernel)) rfl
theorem wdt2_15 : Cond.selects "ReportCauses$Triples" yK1_membersOf yK1_membersOf ∈ ALLW := wt2 (List.mem_of_getElem? (i := 15) (by decide +kernel)) rfl
theorem wdt2_18 : Cond.methodLink "ReportCauses$Rules" 34 yK2_holds ∈ ALLW := wt2 (List.mem_of_getElem? (i := 18) (by decide +kernel)) rfl
theorem wdt2_20 : Cond.instanceMethod yK2_holds ∈ ALLW := wt2 (List.mem_of_getElem? (i := 20) (by decide +kernel)) rfl
theorem wds1_2 : Cond.selects "ReportCauses$Rules" yK2_holds yK2_holds ∈ ALLW := wp1 (List.mem_of_getElem? (i := 2) rfl)
theorem wdt2_9 : Cond.methodLink "ReportCauses" 83 yK2_failing ∈ ALLW := wt2 (List.mem_of_getElem? (i := 9) (by decide +kernel)) rfl
theorem wdt2_10 : Cond.instanceMethod yK2_failing ∈ ALLW := wt2 (List.mem_of_getElem? (i := 10) (by decide +kernel)) rfl
theorem wdt2_11 : Cond.selects "ReportCauses$Rules" yK2_failing yK2_failing ∈ ALLW := wt2 (List.mem_of_getElem? (i := 11) (by decide +kernel)) rfl
theorem wdt2_29 : Cond.methodLink "ReportCauses" 87 yJ2_bitCount ∈ ALLW := wt2 (List.mem_of_getElem? (i := 29) (by decide +kernel)) rfl
theorem wdt2_41 : Cond.methodLink "ReportCauses" 180 yK0_hasMember ∈ ALLW := wt2 (List.mem_of_getElem? (i := 41) (by decide +kernel)) rfl
theorem wdt2_38 : Cond.methodLink "ReportCauses" 153 yK0_nthMember ∈ ALLW := wt2 (List.mem_of_getElem? (i := 38) (by decide +kernel)) rfl
theorem wdt2_39 : Cond.static yK0_nthMember ∈ ALLW := wt2 (List.mem_of_getElem? (i := 39) (by decide +kernel)) rfl
theorem wdt1_144 : Cond.fieldLink "ReportCauses" 16 "ReportCauses" "trial" "LReportCauses$Triples;" ∈ ALLW := wt1 (List.mem_of_getElem? (i := 144) (by decide +kernel)) rfl
theorem wdt2_34 : Cond.methodLink "ReportCauses" 93 yK0_nthResult ∈ ALLW := wt2 (List.mem_of_getElem? (i := 34) (by decide +kernel)) rfl
theorem wdt2_36 : Cond.instanceMethod yK0_nthResult ∈ ALLW := wt2 (List.mem_of_getElem? (i := 36) (by decide +kernel)) rfl
theorem wds1_3 : Cond.selects "ReportCauses" yK0_nthResult yK0_nthResult ∈ ALLW := wp1 (List.mem_of_getElem? (i := 3) rfl)
theorem wdt2_46 : Cond.methodLink "ReportCauses" 97 yK1_isMember ∈ ALLW := wt2 (List.mem_of_getElem? (i := 46) (by decide +kernel)) rfl
theorem wdt2_47 : Cond.instanceMethod yK1_isMember ∈ ALLW := wt2 (List.mem_of_getElem? (i := 47) (by decide +kernel)) rfl
theorem wdt2_48 : Cond.selects "ReportCauses$Triples" yK1_isMember yK1_isMember ∈ ALLW := wt2 (List.mem_of_getElem? (i := 48) (by decide +kernel)) rfl
theorem wdt2_62 : Cond.methodLink "ReportCauses$Triples" 59 yK1_leadingInto ∈ ALLW := wt2 (List.mem_of_getElem? (i := 62) (by decide +kernel)) rfl
theorem wdt2_64 : Cond.instanceMethod yK1_leadingInto ∈ ALLW := wt2 (List.mem_of_getElem? (i := 64) (by decide +kernel)) rfl
theorem wds1_5 : Cond.selects "ReportCauses$Triples" yK1_leadingInto yK1_leadingInto ∈ ALLW := wp1 (List.mem_of_getElem? (i := 5) rfl)
theorem wdt2_58 : Cond.methodLink "ReportCauses$Triples" 49 yK1_fewestBelows ∈ ALLW := wt2 (List.mem_of_getElem? (i := 58) (by decide +kernel)) rfl
theorem wdt2_60 : Cond.instanceMethod yK1_fewestBelows ∈ ALLW := wt2 (List.mem_of_getElem? (i := 60) (by decide +kernel)) rfl
theorem wds1_4 : Cond.selects "ReportCauses$Triples" yK1_fewestBelows yK1_fewestBelows ∈ ALLW := wp1 (List.mem_of_getElem? (i := 4) rfl)
theorem wdt2_54 : Cond.methodLink "ReportCauses" 100 yK1_nthOfReason ∈ ALLW := wt2 (List.mem_of_getElem? (i := 54) (by decide +kernel)) rfl
theorem wdt2_55 : Cond.instanceMethod yK1_nthOfReason ∈ ALLW := wt2 (List.mem_of_getElem? (i := 55) (by decide +kernel)) rfl
theorem wdt2_56 : Cond.selects "ReportCauses$Triples" yK1_nthOfReason yK1_nthOfReason ∈ ALLW := wt2 (List.mem_of_getElem? (i := 56) (by decide +kernel)) rfl
theorem wdt1_146 : Cond.fieldLink "ReportCauses" 29 "ReportCauses" "changes" "LReportCauses$Changes;" ∈ ALLW := wt1 (List.mem_of_getElem? (i := 146) (by decide +kernel)) rfl
theorem wdt2_71 : Cond.methodLink "ReportCauses" 111 yK3_add ∈ ALLW := wt2 (List.mem_of_getElem? (i := 71) (by decide +kernel)) rfl
theorem wdt2_72 : Cond.instanceMethod yK3_add ∈ ALLW := wt2 (List.mem_of_getElem? (i := 72) (by decide +kernel)) rfl
theorem wdt2_73 : Cond.selects "ReportCauses$Changes" yK3_add yK3_add ∈ ALLW := wt2 (List.mem_of_getElem? (i := 73) (by decide +kernel)) rfl
theorem wdt1_4 : Cond.initialized "ReportCauses$Changes" ∈ ALLW := wt1 (List.mem_of_getElem? (i := 4) (by decide +kernel)) rfl
theorem wdt2_87 : Cond.methodLink "ReportCauses$Rules" 28 yK1_isMember ∈ ALLW := wt2 (List.mem_of_getElem? (i := 87) (by decide +kernel)) rfl
theorem wdt2_88 : Cond.methodLink "ReportCauses" 128 yK0_offer ∈ ALLW := wt2 (List.mem_of_getElem? (i := 88) (by decide +kernel)) rfl
theorem wdt2_90 : Cond.instanceMethod yK0_offer ∈ ALLW := wt2 (List.mem_of_getElem? (i := 90) (by decide +kernel)) rfl
theorem wds1_6 : Cond.selects "ReportCauses" yK0_offer yK0_offer ∈ ALLW := wp1 (List.mem_of_getElem? (i := 6) rfl)
theorem wdt2_79 : Cond.methodLink "ReportCauses" 114 yK2_has ∈ ALLW := wt2 (List.mem_of_getElem? (i := 79) (by decide +kernel)) rfl
theorem wdt2_80 : Cond.instanceMethod yK2_has ∈ ALLW := wt2 (List.mem_of_getElem? (i := 80) (by decide +kernel)) rfl
theorem wdt2_81 : Cond.selects "ReportCauses$Rules" yK2_has yK2_has ∈ ALLW := wt2 (List.mem_of_getElem? (i := 81) (by decide +kernel)) rfl
theorem wdt2_83 : Cond.methodLink "ReportCauses" 117 yK2_fails ∈ ALLW := wt2 (List.mem_of_getElem? (i := 83) (by decide +kernel)) rfl
theorem wdt2_84 : Cond.instanceMethod yK2_fails ∈ ALLW := wt2 (List.mem_of_getElem? (i := 84) (by decide +kernel)) rfl
theorem wdt2_85 : Cond.selects "ReportCauses$Rules" yK2_fails yK2_fails ∈ ALLW := wt2 (List.mem_of_getElem? (i := 85) (by decide +kernel)) rfl
theorem wdt2_92 : Cond.methodLink "ReportCauses" 132 yK0_offerAbout ∈ ALLW := wt2 (List.mem_of_getElem? (i := 92) (by decide +kernel)) rfl
theorem wdt2_94 : Cond.instanceMethod yK0_offerAbout ∈ ALLW := wt2 (List.mem_of_getElem? (i := 94) (by decide +kernel)) rfl
theorem wds1_7 : Cond.selects "ReportCauses" yK0_offerAbout yK0_offerAbout ∈ ALLW := wp1 (List.mem_of_getElem? (i := 7) rfl)
theorem wdt2_100 : Cond.methodLink "ReportCauses" 136 yK3_forget ∈ ALLW := wt2 (List.mem_of_getElem? (i := 100) (by decide +kernel)) rfl
theorem wdt2_101 : Cond.instanceMethod yK3_forget ∈ ALLW := wt2 (List.mem_of_getElem? (i := 101) (by decide +kernel)) rfl
theorem wdt2_102 : Cond.selects "ReportCauses$Changes" yK3_forget yK3_forget ∈ ALLW := wt2 (List.mem_of_getElem? (i := 102) (by decide +kernel)) rfl
theorem wdt1_147 : Cond.fieldLink "ReportCauses" 36 "ReportCauses" "found" "LReportCauses$Findings;" ∈ ALLW := wt1 (List.mem_of_getElem? (i := 147) (by decide +kernel)) rfl
theorem wdt2_104 : Cond.methodLink "ReportCauses" 139 yK4_forget ∈ ALLW := wt2 (List.mem_of_getElem? (i := 104) (by decide +kernel)) rfl
theorem wdt2_105 : Cond.instanceMethod yK4_forget ∈ ALLW := wt2 (List.mem_of_getElem? (i := 105) (by decide +kernel)) rfl
theorem wdt2_106 : Cond.selects "ReportCauses$Findings" yK4_forget yK4_forget ∈ ALLW := wt2 (List.mem_of_getElem? (i := 106) (by decide +kernel)) rfl
theorem wdt1_5 : Cond.initialized "ReportCauses$Findings" ∈ ALLW := wt1 (List.mem_of_getElem? (i := 5) (by decide +kernel)) rfl
theorem wdt1_149 : Cond.fieldLink "ReportCauses" 47 "ReportCauses" "coveredSet" "I" ∈ ALLW := wt1 (List.mem_of_getElem? (i := 149) (by decide +kernel)) rfl
theorem wdt1_150 : Cond.fieldLink "ReportCauses" 51 "ReportCauses" "allowedTries" "I" ∈ ALLW := wt1 (List.mem_of_getElem? (i := 150) (by decide +kernel)) rfl
theorem wdt2_124 : Cond.methodLink "ReportCauses" 203 yJ2_numberOfLeadingZeros ∈ ALLW := wt2 (List.mem_of_getElem? (i := 124) (by decide +kernel)) rfl
theorem wdt2_125 : Cond.static yJ2_numberOfLeadingZeros ∈ ALLW := wt2 (List.mem_of_getElem? (i := 125) (by decide +kernel)) rfl
theorem wdt2_139 : Cond.methodLink "ReportCauses$Triples" 33 ⟨"java/lang/System", "arraycopy", "(Ljava/lang/Object;ILjava/lang/Object;II)V"⟩ ∈ ALLW := wt2 (List.mem_of_getElem? (i := 139) (by decide +kernel)) rfl
theorem wdt2_141 : Cond.native ⟨"java/lang/System", "arraycopy", "(Ljava/lang/Object;ILjava/lang/Object;II)V"⟩ ∈ ALLW := wt2 (List.mem_of_getElem? (i := 141) (by decide +kernel)) rfl
theorem wdt2_140 : Cond.static ⟨"java/lang/System", "arraycopy", "(Ljava/lang/Object;ILjava/lang/Object;II)V"⟩ ∈ ALLW := wt2 (List.mem_of_getElem? (i := 140) (by decide +kernel)) rfl
theorem wdt1_14 : Cond.initialized "java/lang/System" ∈ ALLW := wt1 (List.mem_of_getElem? (i := 14) (by decide +kernel)) rfl
theorem wdt2_147 : Cond.methodLink "ReportCauses$Changes" 30 yK1_alter ∈ ALLW := wt2 (List.mem_of_getElem? (i := 147) (by decide +kernel)) rfl
theorem wdt2_135 : Cond.methodLink "ReportCauses" 219 yK1_copyFrom ∈ ALLW := wt2 (List.mem_of_getElem? (i := 135) (by decide +kernel)) rfl
theorem wdt2_136 : Cond.instanceMethod yK1_copyFrom ∈ ALLW := wt2 (List.mem_of_getElem? (i := 136) (by decide +kernel)) rfl
theorem wdt2_137 : Cond.selects "ReportCauses$Triples" yK1_copyFrom yK1_copyFrom ∈ ALLW := wt2 (List.mem_of_getElem? (i := 137) (by decide +kernel)) rfl
theorem wdt2_142 : Cond.methodLink "ReportCauses" 163 yK3_doAll ∈ ALLW := wt2 (List.mem_of_getElem? (i := 142) (by decide +kernel)) rfl
theorem wdt2_143 : Cond.instanceMethod yK3_doAll ∈ ALLW := wt2 (List.mem_of_getElem? (i := 143) (by decide +kernel)) rfl
theorem wdt2_144 : Cond.selects "ReportCauses$Changes" yK3_doAll yK3_doAll ∈ ALLW := wt2 (List.mem_of_getElem? (i := 144) (by decide +kernel)) rfl
theorem wdt1_151 : Cond.fieldLink "ReportCauses" 54 "ReportCauses" "latestTried" "I" ∈ ALLW := wt1 (List.mem_of_getElem? (i := 151) (by decide +kernel)) rfl
theorem wdt1_152 : Cond.fieldLink "ReportCauses" 57 "ReportCauses" "latestSettled" "Z" ∈ ALLW := wt1 (List.mem_of_getElem? (i := 152) (by decide +kernel)) rfl
theorem wdt2_121 : Cond.methodLink "ReportCauses" 223 yK0_nextSet ∈ ALLW := wt2 (List.mem_of_getElem? (i := 121) (by decide +kernel)) rfl
theorem wdt2_122 : Cond.static yK0_nextSet ∈ ALLW := wt2 (List.mem_of_getElem? (i := 122) (by decide +kernel)) rfl
theorem wdt2_127 : Cond.methodLink "ReportCauses" 226 yK4_hasPartOf ∈ ALLW := wt2 (List.mem_of_getElem? (i := 127) (by decide +kernel)) rfl
theorem wdt2_128 : Cond.instanceMethod yK4_hasPartOf ∈ ALLW := wt2 (List.mem_of_getElem? (i := 128) (by decide +kernel)) rfl
theorem wdt2_129 : Cond.selects "ReportCauses$Findings" yK4_hasPartOf yK4_hasPartOf ∈ ALLW := wt2 (List.mem_of_getElem? (i := 129) (by decide +kernel)) rfl
theorem wdt2_131 : Cond.methodLink "ReportCauses" 159 yK0_tryOut ∈ ALLW := wt2 (List.mem_of_getElem? (i := 131) (by decide +kernel)) rfl
theorem wdt2_133 : Cond.instanceMethod yK0_tryOut ∈ ALLW := wt2 (List.mem_of_getElem? (i := 133) (by decide +kernel)) rfl
theorem wds1_9 : Cond.selects "ReportCauses" yK0_tryOut yK0_tryOut ∈ ALLW := wp1 (List.mem_of_getElem? (i := 9) rfl)
theorem wdt2_148 : Cond.methodLink "ReportCauses" 156 yK3_weightOf ∈ ALLW := wt2 (List.mem_of_getElem? (i := 148) (by decide +kernel)) rfl
theorem wdt2_149 : Cond.instanceMethod yK3_weightOf ∈ ALLW := wt2 (List.mem_of_getElem? (i := 149) (by decide +kernel)) rfl
theorem wdt2_150 : Cond.selects "ReportCauses$Changes" yK3_weightOf yK3_weightOf ∈ ALLW := wt2 (List.mem_of_getElem? (i := 150) (by decide +kernel)) rfl
theorem wdt2_152 : Cond.methodLink "ReportCauses" 229 yK4_add ∈ ALLW := wt2 (List.mem_of_getElem? (i := 152) (by decide +kernel)) rfl
theorem wdt2_153 : Cond.instanceMethod yK4_add ∈ ALLW := wt2 (List.mem_of_getElem? (i := 153) (by decide +kernel)) rfl
theorem wdt2_154 : Cond.selects "ReportCauses$Findings" yK4_add yK4_add ∈ ALLW := wt2 (List.mem_of_getElem? (i := 154) (by decide +kernel)) rfl
theorem wdt2_116 : Cond.methodLink "ReportCauses" 140 yJ9_min ∈ ALLW := wt2 (List.mem_of_getElem? (i := 116) (by decide +kernel)) rfl
theorem wdt2_117 : Cond.methodLink "ReportCauses" 146 yK0_findSets ∈ ALLW := wt2 (List.mem_of_getElem? (i := 117) (by decide +kernel)) rfl
theorem wdt2_119 : Cond.instanceMethod yK0_findSets ∈ ALLW := wt2 (List.mem_of_getElem? (i := 119) (by decide +kernel)) rfl
theorem wds1_8 : Cond.selects "ReportCauses" yK0_findSets yK0_findSets ∈ ALLW := wp1 (List.mem_of_getElem? (i := 8) rfl)
theorem wdt2_168 : Cond.methodLink "ReportCauses" 150 yK4_at ∈ ALLW := wt2 (List.mem_of_getElem? (i := 168) (by decide +kernel)) rfl
theorem wdt2_169 : Cond.instanceMethod yK4_at ∈ ALLW := wt2 (List.mem_of_getElem? (i := 169) (by decide +kernel)) rfl
theorem wdt2_170 : Cond.selects "ReportCauses$Findings" yK4_at yK4_at ∈ ALLW := wt2 (List.mem_of_getElem? (i := 170) (by decide +kernel)) rfl
theorem wdt2_184 : Cond.methodLink "ReportCauses" 170 yK0_results ∈ ALLW := wt2 (List.mem_of_getElem? (i := 184) (by decide +kernel)) rfl
theorem wdt2_6 : Cond.instanceMethod yK0_results ∈ ALLW := wt2 (List.mem_of_getElem? (i := 6) (by decide +kernel)) rfl
theorem wdt2_7 : Cond.selects "ReportCauses" yK0_results yK0_results ∈ ALLW := wt2 (List.mem_of_getElem? (i := 7) (by decide +kernel)) rfl
theorem wdt2_193 : Cond.methodLink "ReportCauses" 232 yK0_putsAllRight ∈ ALLW := wt2 (List.mem_of_getElem? (i := 193) (by decide +kernel)) rfl
theorem wdt2_195 : Cond.instanceMethod yK0_putsAllRight ∈ ALLW := wt2 (List.mem_of_getElem? (i := 195) (by decide +kernel)) rfl
theorem wds1_11 : Cond.selects "ReportCauses" yK0_putsAllRight yK0_putsAllRight ∈ ALLW := wp1 (List.mem_of_getElem? (i := 11) rfl)
theorem wdt2_189 : Cond.methodLink "ReportCauses" 174 yK0_lightestCover ∈ ALLW := wt2 (List.mem_of_getElem? (i := 189) (by decide +kernel)) rfl
theorem wdt2_191 : Cond.instanceMethod yK0_lightestCover ∈ ALLW := wt2 (List.mem_of_getElem? (i := 191) (by decide +kernel)) rfl
theorem wds1_10 : Cond.selects "ReportCauses" yK0_lightestCover yK0_lightestCover ∈ ALLW := wp1 (List.mem_of_getElem? (i := 10) rfl)
theorem wdt2_226 : Cond.constant "jdk/internal/util/ArraysSupport" 200 2147483639 ∈ ALLW := wt2 (List.mem_of_getElem? (i := 226) (by decide +kernel)) rfl
theorem wdt2_223 : Cond.methodLink "jdk/internal/util/ArraysSupport" 194 yJ9_max ∈ ALLW := wt2 (List.mem_of_getElem? (i := 223) (by decide +kernel)) rfl
theorem wdt2_224 : Cond.static yJ9_max ∈ ALLW := wt2 (List.mem_of_getElem? (i := 224) (by decide +kernel)) rfl
theorem wdt1_128 : Cond.constant "java/lang/StringUTF16" 20 1073741823 ∈ ALLW := wt1 (List.mem_of_getElem? (i := 128) (by decide +kernel)) rfl
theorem wdt3_185 : Cond.methodLink "ReportCausesModel" 1 ⟨"java/lang/Object", "<init>", "()V"⟩ ∈ ALLW := wt3 (List.mem_of_getElem? (i := 185) (by decide +kernel)) rfl
theorem wdt3_186 : Cond.fieldLink "ReportCausesModel" 7 "ReportCausesModel" "there" "[Z" ∈ ALLW := wt3 (List.mem_of_getElem? (i := 186) (by decide +kernel)) rfl
theorem wdt3_187 : Cond.fieldLink "ReportCausesModel" 13 "ReportCausesModel" "now" "[Z" ∈ ALLW := wt3 (List.mem_of_getElem? (i := 187) (by decide +kernel)) rfl
theorem wdt3_189 : Cond.fieldLink "ReportCausesModel" 16 "ReportCausesModel" "kinds" "[I" ∈ ALLW := wt3 (List.mem_of_getElem? (i := 189) (by decide +kernel)) rfl
theorem wdt3_190 : Cond.fieldLink "ReportCausesModel" 20 "ReportCausesModel" "targets" "[I" ∈ ALLW := wt3 (List.mem_of_getElem? (i := 190) (by decide +kernel)) rfl
theorem wdt3_191 : Cond.fieldLink "ReportCausesModel" 23 "ReportCausesModel" "predicates" "[I" ∈ ALLW := wt3 (List.mem_of_getElem? (i := 191) (by decide +kernel)) rfl
theorem wdt3_192 : Cond.fieldLink "ReportCausesModel" 26 "ReportCausesModel" "numbers" "[I" ∈ ALLW := wt3 (List.mem_of_getElem? (i := 192) (by decide +kernel)) rfl
theorem wdt3_194 : Cond.fieldLink "ReportCausesModel" 29 "ReportCausesModel" "puts" "[Z" ∈ ALLW := wt3 (List.mem_of_getElem? (i := 194) (by decide +kernel)) rfl
theorem wdt3_195 : Cond.fieldLink "ReportCausesModel" 32 "ReportCausesModel" "codes" "[I" ∈ ALLW := wt3 (List.mem_of_getElem? (i := 195) (by decide +kernel)) rfl
theorem wdt3_196 : Cond.fieldLink "ReportCausesModel" 35 "ReportCausesModel" "weights" "[I" ∈ ALLW := wt3 (List.mem_of_getElem? (i := 196) (by decide +kernel)) rfl
theorem wdt3_197 : Cond.fieldLink "ReportCausesModel" 38 "ReportCausesModel" "mostTries" "I" ∈ ALLW := wt3 (List.mem_of_getElem? (i := 197) (by decide +kernel)) rfl
theorem wdt3_201 : Cond.fieldLink "ReportCausesModel" 42 "ReportCausesModel" "sets" "[I" ∈ ALLW := wt3 (List.mem_of_getElem? (i := 201) (by decide +kernel)) rfl
theorem wdt3_204 : Cond.fieldLink "ReportCausesModel" 45 "ReportCausesModel" "picks" "[I" ∈ ALLW := wt3 (List.mem_of_getElem? (i := 204) (by decide +kernel)) rfl
theorem wdt3_205 : Cond.fieldLink "ReportCausesModel" 48 "ReportCausesModel" "classes" "[Z" ∈ ALLW := wt3 (List.mem_of_getElem? (i := 205) (by decide +kernel)) rfl
theorem wdt3_206 : Cond.fieldLink "ReportCausesModel" 51 "ReportCausesModel" "steps" "[I" ∈ ALLW := wt3 (List.mem_of_getElem? (i := 206) (by decide +kernel)) rfl
theorem wdt3_207 : Cond.fieldLink "ReportCausesModel" 54 "ReportCausesModel" "told" "[I" ∈ ALLW := wt3 (List.mem_of_getElem? (i := 207) (by decide +kernel)) rfl
theorem wdt3_199 : Cond.fieldLink "ReportCausesModel" 57 "ReportCausesModel" "settled" "Z" ∈ ALLW := wt3 (List.mem_of_getElem? (i := 199) (by decide +kernel)) rfl
theorem wdt4_23 : Cond.methodLink "ReportCausesModel" 61 yK5_in ∈ ALLW := wt4 (List.mem_of_getElem? (i := 23) (by decide +kernel)) rfl
theorem wdt4_24 : Cond.static yK5_in ∈ ALLW := wt4 (List.mem_of_getElem? (i := 24) (by decide +kernel)) rfl
theorem wdt1_10 : Cond.initialized "ReportCausesModel" ∈ ALLW := wt1 (List.mem_of_getElem? (i := 10) (by decide +kernel)) rfl
theorem wdt4_20 : Cond.methodLink "ReportCausesModel" 65 yK5_isTriple ∈ ALLW := wt4 (List.mem_of_getElem? (i := 20) (by decide +kernel)) rfl
theorem wdt4_21 : Cond.static yK5_isTriple ∈ ALLW := wt4 (List.mem_of_getElem? (i := 21) (by decide +kernel)) rfl
theorem wdt4_26 : Cond.methodLink "ReportCausesModel" 68 yK5_codeOf ∈ ALLW := wt4 (List.mem_of_getElem? (i := 26) (by decide +kernel)) rfl
theorem wdt4_27 : Cond.static yK5_codeOf ∈ ALLW := wt4 (List.mem_of_getElem? (i := 27) (by decide +kernel)) rfl
theorem wdt3_188 : Cond.fieldLink "ReportCausesModel" 72 "ReportCausesModel" "rules" "I" ∈ ALLW := wt3 (List.mem_of_getElem? (i := 188) (by decide +kernel)) rfl
theorem wdt3_193 : Cond.fieldLink "ReportCausesModel" 75 "ReportCausesModel" "changes" "I" ∈ ALLW := wt3 (List.mem_of_getElem? (i := 193) (by decide +kernel)) rfl
theorem wdt4_53 : Cond.methodLink "ReportCausesModel" 78 yK5_isOfNow ∈ ALLW := wt4 (List.mem_of_getElem? (i := 53) (by decide +kernel)) rfl
theorem wdt4_55 : Cond.instanceMethod yK5_isOfNow ∈ ALLW := wt4 (List.mem_of_getElem? (i := 55) (by decide +kernel)) rfl
theorem wds1_15 : Cond.selects "ReportCausesModel" yK5_isOfNow yK5_isOfNow ∈ ALLW := wp1 (List.mem_of_getElem? (i := 15) rfl)
theorem wdt4_57 : Cond.methodLink "ReportCausesModel" 82 yK5_holds ∈ ALLW := wt4 (List.mem_of_getElem? (i := 57) (by decide +kernel)) rfl
theorem wdt4_59 : Cond.instanceMethod yK5_holds ∈ ALLW := wt4 (List.mem_of_getElem? (i := 59) (by decide +kernel)) rfl
theorem wds2_0 : Cond.selects "ReportCausesModel" yK5_holds yK5_holds ∈ ALLW := wp2 (List.mem_of_getElem? (i := 0) rfl)
theorem wdt4_49 : Cond.methodLink "ReportCausesModel" 85 yK5_isResult ∈ ALLW := wt4 (List.mem_of_getElem? (i := 49) (by decide +kernel)) rfl
theorem wdt4_51 : Cond.instanceMethod yK5_isResult ∈ ALLW := wt4 (List.mem_of_getElem? (i := 51) (by decide +kernel)) rfl
theorem wds1_14 : Cond.selects "ReportCausesModel" yK5_isResult yK5_isResult ∈ ALLW := wp1 (List.mem_of_getElem? (i := 14) rfl)
theorem wdt4_41 : Cond.methodLink "ReportCausesModel" 88 yK5_begin ∈ ALLW := wt4 (List.mem_of_getElem? (i := 41) (by decide +kernel)) rfl
theorem wdt4_43 : Cond.instanceMethod yK5_begin ∈ ALLW := wt4 (List.mem_of_getElem? (i := 43) (by decide +kernel)) rfl
theorem wds1_12 : Cond.selects "ReportCausesModel" yK5_begin yK5_begin ∈ ALLW := wp1 (List.mem_of_getElem? (i := 12) rfl)
theorem wdt4_45 : Cond.methodLink "ReportCausesModel" 92 yK5_resultsNow ∈ ALLW := wt4 (List.mem_of_getElem? (i := 45) (by decide +kernel)) rfl
theorem wdt4_47 : Cond.instanceMethod yK5_resultsNow ∈ ALLW := wt4 (List.mem_of_getElem? (i := 47) (by decide +kernel)) rfl
theorem wds1_13 : Cond.selects "ReportCausesModel" yK5_resultsNow yK5_resultsNow ∈ ALLW := wp1 (List.mem_of_getElem? (i := 13) rfl)
theorem wdt4_73 : Cond.methodLink "ReportCausesModel" 96 yK5_measure ∈ ALLW := wt4 (List.mem_of_getElem? (i := 73) (by decide +kernel)) rfl
theorem wdt4_75 : Cond.instanceMethod yK5_measure ∈ ALLW := wt4 (List.mem_of_getElem? (i := 75) (by decide +kernel)) rfl
theorem wds2_1 : Cond.selects "ReportCausesModel" yK5_measure yK5_measure ∈ ALLW := wp2 (List.mem_of_getElem? (i := 1) rfl)
theorem wdt4_81 : Cond.methodLink "ReportCausesModel" 99 yK5_isThere ∈ ALLW := wt4 (List.mem_of_getElem? (i := 81) (by decide +kernel)) rfl
theorem wdt4_83 : Cond.instanceMethod yK5_isThere ∈ ALLW := wt4 (List.mem_of_getElem? (i := 83) (by decide +kernel)) rfl
theorem wds2_2 : Cond.selects "ReportCausesModel" yK5_isThere yK5_isThere ∈ ALLW := wp2 (List.mem_of_getElem? (i := 2) rfl)
theorem wdt4_85 : Cond.methodLink "ReportCausesModel" 103 yK5_enter ∈ ALLW := wt4 (List.mem_of_getElem? (i := 85) (by decide +kernel)) rfl
theorem wdt4_87 : Cond.instanceMethod yK5_enter ∈ ALLW := wt4 (List.mem_of_getElem? (i := 87) (by decide +kernel)) rfl
theorem wds2_3 : Cond.selects "ReportCausesModel" yK5_enter yK5_enter ∈ ALLW := wp2 (List.mem_of_getElem? (i := 3) rfl)
theorem wdt4_93 : Cond.methodLink "ReportCausesModel" 107 yK5_isPair ∈ ALLW := wt4 (List.mem_of_getElem? (i := 93) (by decide +kernel)) rfl
theorem wdt4_95 : Cond.instanceMethod yK5_isPair ∈ ALLW := wt4 (List.mem_of_getElem? (i := 95) (by decide +kernel)) rfl
theorem wds2_4 : Cond.selects "ReportCausesModel" yK5_isPair yK5_isPair ∈ ALLW := wp2 (List.mem_of_getElem? (i := 4) rfl)
theorem wdt4_97 : Cond.methodLink "ReportCausesModel" 110 yK5_offer ∈ ALLW := wt4 (List.mem_of_getElem? (i := 97) (by decide +kernel)) rfl
theorem wdt4_99 : Cond.instanceMethod yK5_offer ∈ ALLW := wt4 (List.mem_of_getElem? (i := 99) (by decide +kernel)) rfl
theorem wds2_5 : Cond.selects "ReportCausesModel" yK5_offer yK5_offer ∈ ALLW := wp2 (List.mem_of_getElem? (i := 5) rfl)
theorem wdt3_200 : Cond.fieldLink "ReportCausesModel" 114 "ReportCausesModel" "found" "I" ∈ ALLW := wt3 (List.mem_of_getElem? (i := 200) (by decide +kernel)) rfl
theorem wdt3_202 : Cond.fieldLink "ReportCausesModel" 117 "ReportCausesModel" "isCovered" "Z" ∈ ALLW := wt3 (List.mem_of_getElem? (i := 202) (by decide +kernel)) rfl
theorem wdt3_198 : Cond.fieldLink "ReportCausesModel" 120 "ReportCausesModel" "tried" "I" ∈ ALLW := wt3 (List.mem_of_getElem? (i := 198) (by decide +kernel)) rfl
theorem wdt4_137 : Cond.methodLink "ReportCausesModel" 144 yK5_weightOf ∈ ALLW := wt4 (List.mem_of_getElem? (i := 137) (by decide +kernel)) rfl
theorem wdt4_139 : Cond.instanceMethod yK5_weightOf ∈ ALLW := wt4 (List.mem_of_getElem? (i := 139) (by decide +kernel)) rfl
theorem wds2_12 : Cond.selects "ReportCausesModel" yK5_weightOf yK5_weightOf ∈ ALLW := wp2 (List.mem_of_getElem? (i := 12) rfl)
theorem wdt4_141 : Cond.methodLink "ReportCausesModel" 147 yK5_sizeOf ∈ ALLW := wt4 (List.mem_of_getElem? (i := 141) (by decide +kernel)) rfl
theorem wdt4_142 : Cond.static yK5_sizeOf ∈ ALLW := wt4 (List.mem_of_getElem? (i := 142) (by decide +kernel)) rfl
theorem wdt4_133 : Cond.methodLink "ReportCausesModel" 141 yK5_sort ∈ ALLW := wt4 (List.mem_of_getElem? (i := 133) (by decide +kernel)) rfl
theorem wdt4_135 : Cond.instanceMethod yK5_sort ∈ ALLW := wt4 (List.mem_of_getElem? (i := 135) (by decide +kernel)) rfl
theorem wds2_11 : Cond.selects "ReportCausesModel" yK5_sort yK5_sort ∈ ALLW := wp2 (List.mem_of_getElem? (i := 11) rfl)
theorem wdt4_113 : Cond.methodLink "ReportCausesModel" 123 yK5_first ∈ ALLW := wt4 (List.mem_of_getElem? (i := 113) (by decide +kernel)) rfl
theorem wdt4_115 : Cond.instanceMethod yK5_first ∈ ALLW := wt4 (List.mem_of_getElem? (i := 115) (by decide +kernel)) rfl
theorem wds2_6 : Cond.selects "ReportCausesModel" yK5_first yK5_first ∈ ALLW := wp2 (List.mem_of_getElem? (i := 6) rfl)
theorem wdt4_117 : Cond.methodLink "ReportCausesModel" 126 yK5_setOf ∈ ALLW := wt4 (List.mem_of_getElem? (i := 117) (by decide +kernel)) rfl
theorem wdt4_119 : Cond.instanceMethod yK5_setOf ∈ ALLW := wt4 (List.mem_of_getElem? (i := 119) (by decide +kernel)) rfl
theorem wds2_7 : Cond.selects "ReportCausesModel" yK5_setOf yK5_setOf ∈ ALLW := wp2 (List.mem_of_getElem? (i := 7) rfl)
theorem wdt4_121 : Cond.methodLink "ReportCausesModel" 130 yK5_hasOneWithin ∈ ALLW := wt4 (List.mem_of_getElem? (i := 121) (by decide +kernel)) rfl
theorem wdt4_123 : Cond.instanceMethod yK5_hasOneWithin ∈ ALLW := wt4 (List.mem_of_getElem? (i := 123) (by decide +kernel)) rfl
theorem wds2_8 : Cond.selects "ReportCausesModel" yK5_hasOneWithin yK5_hasOneWithin ∈ ALLW := wp2 (List.mem_of_getElem? (i := 8) rfl)
theorem wdt4_129 : Cond.methodLink "ReportCausesModel" 138 yK5_next ∈ ALLW := wt4 (List.mem_of_getElem? (i := 129) (by decide +kernel)) rfl
theorem wdt4_131 : Cond.instanceMethod yK5_next ∈ ALLW := wt4 (List.mem_of_getElem? (i := 131) (by decide +kernel)) rfl
theorem wds2_10 : Cond.selects "ReportCausesModel" yK5_next yK5_next ∈ ALLW := wp2 (List.mem_of_getElem? (i := 10) rfl)
theorem wdt4_125 : Cond.methodLink "ReportCausesModel" 134 yK5_look ∈ ALLW := wt4 (List.mem_of_getElem? (i := 125) (by decide +kernel)) rfl
theorem wdt4_127 : Cond.instanceMethod yK5_look ∈ ALLW := wt4 (List.mem_of_getElem? (i := 127) (by decide +kernel)) rfl
theorem wds2_9 : Cond.selects "ReportCausesModel" yK5_look yK5_look ∈ ALLW := wp2 (List.mem_of_getElem? (i := 9) rfl)
theorem wdt3_203 : Cond.fieldLink "ReportCausesModel" 153 "ReportCausesModel" "covered" "I" ∈ ALLW := wt3 (List.mem_of_getElem? (i := 203) (by decide +kernel)) rfl
theorem wdt4_148 : Cond.methodLink "ReportCausesModel" 150 yK5_weigh ∈ ALLW := wt4 (List.mem_of_getElem? (i := 148) (by decide +kernel)) rfl
theorem wdt4_150 : Cond.instanceMethod yK5_weigh ∈ ALLW := wt4 (List.mem_of_getElem? (i := 150) (by decide +kernel)) rfl
theorem wds2_13 : Cond.selects "ReportCausesModel" yK5_weigh yK5_weigh ∈ ALLW := wp2 (List.mem_of_getElem? (i := 13) rfl)
theorem wdt4_164 : Cond.methodLink "ReportCausesModel" 156 yK5_isFound ∈ ALLW := wt4 (List.mem_of_getElem? (i := 164) (by decide +kernel)) rfl
theorem wdt4_166 : Cond.instanceMethod yK5_isFound ∈ ALLW := wt4 (List.mem_of_getElem? (i := 166) (by decide +kernel)) rfl
theorem wds2_14 : Cond.selects "ReportCausesModel" yK5_isFound yK5_isFound ∈ ALLW := wp2 (List.mem_of_getElem? (i := 14) rfl)
theorem wdt4_168 : Cond.methodLink "ReportCausesModel" 159 yK5_member ∈ ALLW := wt4 (List.mem_of_getElem? (i := 168) (by decide +kernel)) rfl
theorem wdt4_169 : Cond.static yK5_member ∈ ALLW := wt4 (List.mem_of_getElem? (i := 169) (by decide +kernel)) rfl
theorem wdt3_208 : Cond.fieldLink "ReportCausesModel" 163 "ReportCausesModel" "toldMany" "I" ∈ ALLW := wt3 (List.mem_of_getElem? (i := 208) (by decide +kernel)) rfl
theorem wdt4_191 : Cond.methodLink "ReportCausesModel" 166 yK5_tell ∈ ALLW := wt4 (List.mem_of_getElem? (i := 191) (by decide +kernel)) rfl
theorem wdt4_193 : Cond.instanceMethod yK5_tell ∈ ALLW := wt4 (List.mem_of_getElem? (i := 193) (by decide +kernel)) rfl
theorem wds2_15 : Cond.selects "ReportCausesModel" yK5_tell yK5_tell ∈ ALLW := wp2 (List.mem_of_getElem? (i := 15) rfl)
theorem wdt4_195 : Cond.methodLink "ReportCausesModel" 169 yK5_tellNumber ∈ ALLW := wt4 (List.mem_of_getElem? (i := 195) (by decide +kernel)) rfl
theorem wdt4_197 : Cond.instanceMethod yK5_tellNumber ∈ ALLW := wt4 (List.mem_of_getElem? (i := 197) (by decide +kernel)) rfl
theorem wds3_0 : Cond.selects "ReportCausesModel" yK5_tellNumber yK5_tellNumber ∈ ALLW := wp3 (List.mem_of_getElem? (i := 0) rfl)
theorem wdt1_153 : Cond.laysFinal "ReportCauses" "ReportCauses" "triples" "LReportCauses$Triples;" ∈ ALLW := wt1 (List.mem_of_getElem? (i := 153) (by decide +kernel)) rfl
theorem wdt1_155 : Cond.laysFinal "ReportCauses" "ReportCauses" "trial" "LReportCauses$Triples;" ∈ ALLW := wt1 (List.mem_of_getElem? (i := 155) (by decide +kernel)) rfl
theorem wdt1_157 : Cond.laysFinal "ReportCauses" "ReportCauses" "rules" "LReportCauses$Rules;" ∈ ALLW := wt1 (List.mem_of_getElem? (i := 157) (by decide +kernel)) rfl
theorem wdt1_159 : Cond.laysFinal "ReportCauses" "ReportCauses" "changes" "LReportCauses$Changes;" ∈ ALLW := wt1 (List.mem_of_getElem? (i := 159) (by decide +kernel)) rfl
theorem wdt1_161 : Cond.laysFinal "ReportCauses" "ReportCauses" "found" "LReportCauses$Findings;" ∈ ALLW := wt1 (List.mem_of_getElem? (i := 161) (by decide +kernel)) rfl
theorem wdt1_163 : Cond.laysFinal "ReportCauses" "ReportCauses" "told" "Ljava/lang/StringBuilder;" ∈ ALLW := wt1 (List.mem_of_getElem? (i := 163) (by decide +kernel)) rfl
theorem wdt1_165 : Cond.lays "ReportCauses" "ReportCauses" "coveredSet" "I" ∈ ALLW := wt1 (List.mem_of_getElem? (i := 165) (by decide +kernel)) rfl
theorem wdt1_167 : Cond.lays "ReportCauses" "ReportCauses" "allowedTries" "I" ∈ ALLW := wt1 (List.mem_of_getElem? (i := 167) (by decide +kernel)) rfl
theorem wdt1_169 : Cond.lays "ReportCauses" "ReportCauses" "latestTried" "I" ∈ ALLW := wt1 (List.mem_of_getElem? (i := 169) (by decide +kernel)) rfl
theorem wdt1_171 : Cond.lays "ReportCauses" "ReportCauses" "latestSettled" "Z" ∈ ALLW := wt1 (List.mem_of_getElem? (i := 171) (by decide +kernel)) rfl
theorem wdt1_36 : Cond.laysFinal "ReportCauses$Triples" "ReportCauses$Triples" "objects" "[I" ∈ ALLW := wt1 (List.mem_of_getElem? (i := 36) (by decide +kernel)) rfl
theorem wdt1_38 : Cond.laysFinal "ReportCauses$Triples" "ReportCauses$Triples" "members" "[I" ∈ ALLW := wt1 (List.mem_of_getElem? (i := 38) (by decide +kernel)) rfl
theorem wdt1_40 : Cond.laysFinal "ReportCauses$Triples" "ReportCauses$Triples" "within" "[I" ∈ ALLW := wt1 (List.mem_of_getElem? (i := 40) (by decide +kernel)) rfl
theorem wdt1_42 : Cond.lays "ReportCauses$Triples" "ReportCauses$Triples" "isSorted" "Z" ∈ ALLW := wt1 (List.mem_of_getElem? (i := 42) (by decide +kernel)) rfl
theorem wdt1_62 : Cond.laysFinal "ReportCauses$Rules" "ReportCauses$Rules" "kind" "[I" ∈ ALLW := wt1 (List.mem_of_getElem? (i := 62) (by decide +kernel)) rfl
theorem wdt1_64 : Cond.laysFinal "ReportCauses$Rules" "ReportCauses$Rules" "target" "[I" ∈ ALLW := wt1 (List.mem_of_getElem? (i := 64) (by decide +kernel)) rfl
theorem wdt1_66 : Cond.laysFinal "ReportCauses$Rules" "ReportCauses$Rules" "predicate" "[I" ∈ ALLW := wt1 (List.mem_of_getElem? (i := 66) (by decide +kernel)) rfl
theorem wdt1_68 : Cond.laysFinal "ReportCauses$Rules" "ReportCauses$Rules" "number" "[I" ∈ ALLW := wt1 (List.mem_of_getElem? (i := 68) (by decide +kernel)) rfl
theorem wdt1_70 : Cond.lays "ReportCauses$Rules" "ReportCauses$Rules" "count" "I" ∈ ALLW := wt1 (List.mem_of_getElem? (i := 70) (by decide +kernel)) rfl
theorem wdt1_84 : Cond.laysFinal "ReportCauses$Changes" "ReportCauses$Changes" "puts" "[Z" ∈ ALLW := wt1 (List.mem_of_getElem? (i := 84) (by decide +kernel)) rfl
theorem wdt1_86 : Cond.laysFinal "ReportCauses$Changes" "ReportCauses$Changes" "code" "[I" ∈ ALLW := wt1 (List.mem_of_getElem? (i := 86) (by decide +kernel)) rfl
theorem wdt1_88 : Cond.laysFinal "ReportCauses$Changes" "ReportCauses$Changes" "weighs" "[I" ∈ ALLW := wt1 (List.mem_of_getElem? (i := 88) (by decide +kernel)) rfl
theorem wdt1_90 : Cond.lays "ReportCauses$Changes" "ReportCauses$Changes" "count" "I" ∈ ALLW := wt1 (List.mem_of_getElem? (i := 90) (by decide +kernel)) rfl
theorem wdt1_104 : Cond.laysFinal "ReportCauses$Findings" "ReportCauses$Findings" "sets" "[I" ∈ ALLW := wt1 (List.mem_of_getElem? (i := 104) (by decide +kernel)) rfl
theorem wdt1_106 : Cond.laysFinal "ReportCauses$Findings" "ReportCauses$Findings" "sums" "[I" ∈ ALLW := wt1 (List.mem_of_getElem? (i := 106) (by decide +kernel)) rfl
theorem wdt1_108 : Cond.lays "ReportCauses$Findings" "ReportCauses$Findings" "count" "I" ∈ ALLW := wt1 (List.mem_of_getElem? (i := 108) (by decide +kernel)) rfl
theorem wdt3_209 : Cond.laysFinal "ReportCausesModel" "ReportCausesModel" "there" "[Z" ∈ ALLW := wt3 (List.mem_of_getElem? (i := 209) (by decide +kernel)) rfl
theorem wdt3_211 : Cond.laysFinal "ReportCausesModel" "ReportCausesModel" "now" "[Z" ∈ ALLW := wt3 (List.mem_of_getElem? (i := 211) (by decide +kernel)) rfl
theorem wdt3_213 : Cond.lays "ReportCausesModel" "ReportCausesModel" "rules" "I" ∈ ALLW := wt3 (List.mem_of_getElem? (i := 213) (by decide +kernel)) rfl
theorem wdt3_215 : Cond.laysFinal "ReportCausesModel" "ReportCausesModel" "kinds" "[I" ∈ ALLW := wt3 (List.mem_of_getElem? (i := 215) (by decide +kernel)) rfl
theorem wdt3_217 : Cond.laysFinal "ReportCausesModel" "ReportCausesModel" "targets" "[I" ∈ ALLW := wt3 (List.mem_of_getElem? (i := 217) (by decide +kernel)) rfl
theorem wdt3_219 : Cond.laysFinal "ReportCausesModel" "ReportCausesModel" "predicates" "[I" ∈ ALLW := wt3 (List.mem_of_getElem? (i := 219) (by decide +kernel)) rfl
theorem wdt3_221 : Cond.laysFinal "ReportCausesModel" "ReportCausesModel" "numbers" "[I" ∈ ALLW := wt3 (List.mem_of_getElem? (i := 221) (by decide +kernel)) rfl
theorem wdt3_223 : Cond.lays "ReportCausesModel" "ReportCausesModel" "changes" "I" ∈ ALLW := wt3 (List.mem_of_getElem? (i := 223) (by decide +kernel)) rfl
theorem wdt3_225 : Cond.laysFinal "ReportCausesModel" "ReportCausesModel" "puts" "[Z" ∈ ALLW := wt3 (List.mem_of_getElem? (i := 225) (by decide +kernel)) rfl
theorem wdt3_227 : Cond.laysFinal "ReportCausesModel" "ReportCausesModel" "codes" "[I" ∈ ALLW := wt3 (List.mem_of_getElem? (i := 227) (by decide +kernel)) rfl
theorem wdt3_229 : Cond.laysFinal "ReportCausesModel" "ReportCausesModel" "weights" "[I" ∈ ALLW := wt3 (List.mem_of_getElem? (i := 229) (by decide +kernel)) rfl
theorem wdt3_231 : Cond.lays "ReportCausesModel" "ReportCausesModel" "mostTries" "I" ∈ ALLW := wt3 (List.mem_of_getElem? (i := 231) (by decide +kernel)) rfl
theorem wdt3_233 : Cond.lays "ReportCausesModel" "ReportCausesModel" "tried" "I" ∈ ALLW := wt3 (List.mem_of_getElem? (i := 233) (by decide +kernel)) rfl
theorem wdt3_235 : Cond.lays "ReportCausesModel" "ReportCausesModel" "settled" "Z" ∈ ALLW := wt3 (List.mem_of_getElem? (i := 235) (by decide +kernel)) rfl
theorem wdt3_237 : Cond.lays "ReportCausesModel" "ReportCausesModel" "found" "I" ∈ ALLW := wt3 (List.mem_of_getElem? (i := 237) (by decide +kernel)) rfl
theorem wdt3_239 : Cond.laysFinal "ReportCausesModel" "ReportCausesModel" "sets" "[I" ∈ ALLW := wt3 (List.mem_of_getElem? (i := 239) (by decide +kernel)) rfl
theorem wdt4_1 : Cond.lays "ReportCausesModel" "ReportCausesModel" "isCovered" "Z" ∈ ALLW := wt4 (List.mem_of_getElem? (i := 1) (by decide +kernel)) rfl
theorem wdt4_3 : Cond.lays "ReportCausesModel" "ReportCausesModel" "covered" "I" ∈ ALLW := wt4 (List.mem_of_getElem? (i := 3) (by decide +kernel)) rfl
theorem wdt4_5 : Cond.laysFinal "ReportCausesModel" "ReportCausesModel" "picks" "[I" ∈ ALLW := wt4 (List.mem_of_getElem? (i := 5) (by decide +kernel)) rfl
theorem wdt4_7 : Cond.laysFinal "ReportCausesModel" "ReportCausesModel" "classes" "[Z" ∈ ALLW := wt4 (List.mem_of_getElem? (i := 7) (by decide +kernel)) rfl
theorem wdt4_9 : Cond.laysFinal "ReportCausesModel" "ReportCausesModel" "steps" "[I" ∈ ALLW := wt4 (List.mem_of_getElem? (i := 9) (by decide +kernel)) rfl
theorem wdt4_11 : Cond.laysFinal "ReportCausesModel" "ReportCausesModel" "told" "[I" ∈ ALLW := wt4 (List.mem_of_getElem? (i := 11) (by decide +kernel)) rfl
theorem wdt4_13 : Cond.lays "ReportCausesModel" "ReportCausesModel" "toldMany" "I" ∈ ALLW := wt4 (List.mem_of_getElem? (i := 13) (by decide +kernel)) rfl
theorem wdt1_133 : Cond.lays "java/lang/StringBuilder" "java/lang/AbstractStringBuilder" "value" "[B" ∈ ALLW := wt1 (List.mem_of_getElem? (i := 133) (by decide +kernel)) rfl
theorem wdt1_135 : Cond.lays "java/lang/StringBuilder" "java/lang/AbstractStringBuilder" "coder" "B" ∈ ALLW := wt1 (List.mem_of_getElem? (i := 135) (by decide +kernel)) rfl
theorem wdt1_137 : Cond.lays "java/lang/StringBuilder" "java/lang/AbstractStringBuilder" "maybeLatin1" "Z" ∈ ALLW := wt1 (List.mem_of_getElem? (i := 137) (by decide +kernel)) rfl
theorem wdt1_139 : Cond.lays "java/lang/StringBuilder" "java/lang/AbstractStringBuilder" "count" "I" ∈ ALLW := wt1 (List.mem_of_getElem? (i := 139) (by decide +kernel)) rfl
theorem wdt1_30 : Cond.code yK1_init cK1_init 1 none ∈ ALLW := wt1 (List.mem_of_getElem? (i := 30) rfl) rfl
theorem wdt1_50 : Cond.code yK2_init cK2_init 1 none ∈ ALLW := wt1 (List.mem_of_getElem? (i := 50) rfl) rfl
theorem wdt1_77 : Cond.code yK3_init cK3_init 1 none ∈ ALLW := wt1 (List.mem_of_getElem? (i := 77) rfl) rfl
theorem wdt1_98 : Cond.code yK4_init cK4_init 1 none ∈ ALLW := wt1 (List.mem_of_getElem? (i := 98) rfl) rfl
theorem wdt1_187 : Cond.code yK0_isNode cK0_isNode 1 (some .boolean) ∈ ALLW := wt1 (List.mem_of_getElem? (i := 187) rfl) rfl
theorem wdt1_190 : Cond.code yK0_isPredicate cK0_isPredicate 1 (some .boolean) ∈ ALLW := wt1 (List.mem_of_getElem? (i := 190) rfl) rfl
theorem wdt1_184 : Cond.code yK0_isTriple cK0_isTriple 3 (some .boolean) ∈ ALLW := wt1 (List.mem_of_getElem? (i := 184) rfl) rfl
theorem wdt1_198 : Cond.code yK1_objectsOf cK1_objectsOf 3 (some .int) ∈ ALLW := wt1 (List.mem_of_getElem? (i := 198) rfl) rfl
theorem wdt1_201 : Cond.code yK0_hasMember cK0_hasMember 2 (some .boolean) ∈ ALLW := wt1 (List.mem_of_getElem? (i := 201) rfl) rfl
theorem wdt1_194 : Cond.code yK1_has cK1_has 4 (some .boolean) ∈ ALLW := wt1 (List.mem_of_getElem? (i := 194) rfl) rfl
theorem wdt1_204 : Cond.code yK0_codeOf cK0_codeOf 3 (some .int) ∈ ALLW := wt1 (List.mem_of_getElem? (i := 204) rfl) rfl
theorem wdt1_208 : Cond.code yK1_alter cK1_alter 6 none ∈ ALLW := wt1 (List.mem_of_getElem? (i := 208) rfl) rfl
theorem wdt1_215 : Cond.code yJ6_fill_aIIV cJ6_fill_aIIV 4 none ∈ ALLW := wt1 (List.mem_of_getElem? (i := 215) rfl) rfl
theorem wdt1_225 : Cond.code yJ2_numberOfTrailingZeros cJ2_numberOfTrailingZeros 2 (some .int) ∈ ALLW := wt1 (List.mem_of_getElem? (i := 225) rfl) rfl
theorem wdt1_222 : Cond.code yK1_least cK1_least 1 (some .int) ∈ ALLW := wt1 (List.mem_of_getElem? (i := 222) rfl) rfl
theorem wdt1_219 : Cond.code yK1_classesOf cK1_classesOf 6 (some .int) ∈ ALLW := wt1 (List.mem_of_getElem? (i := 219) rfl) rfl
theorem wdt1_212 : Cond.code yK1_sortIntoClasses cK1_sortIntoClasses 4 none ∈ ALLW := wt1 (List.mem_of_getElem? (i := 212) rfl) rfl
theorem wdt1_181 : Cond.code yK0_putOrTake cK0_putOrTake 5 (some .int) ∈ ALLW := wt1 (List.mem_of_getElem? (i := 181) rfl) rfl
theorem wdt1_177 : Cond.code yK0_triple cK0_triple 4 (some .int) ∈ ALLW := wt1 (List.mem_of_getElem? (i := 177) rfl) rfl
theorem wdt1_233 : Cond.code yK0_drop cK0_drop 4 (some .int) ∈ ALLW := wt1 (List.mem_of_getElem? (i := 233) rfl) rfl
theorem wdt2_0 : Cond.code yK0_fitsKind cK0_fitsKind 2 (some .boolean) ∈ ALLW := wt2 (List.mem_of_getElem? (i := 0) rfl) rfl
theorem wdt2_4 : Cond.code yK2_add cK2_add 5 (some .int) ∈ ALLW := wt2 (List.mem_of_getElem? (i := 4) rfl) rfl
theorem wdt1_237 : Cond.code yK0_rule cK0_rule 5 (some .int) ∈ ALLW := wt1 (List.mem_of_getElem? (i := 237) rfl) rfl
theorem wdt2_16 : Cond.code yK1_membersOf cK1_membersOf 2 (some .int) ∈ ALLW := wt2 (List.mem_of_getElem? (i := 16) rfl) rfl
theorem wdt2_25 : Cond.code yJ2_bitCount cJ2_bitCount 1 (some .int) ∈ ALLW := wt2 (List.mem_of_getElem? (i := 25) rfl) rfl
theorem wdt2_21 : Cond.code yK2_holds cK2_holds 6 (some .boolean) ∈ ALLW := wt2 (List.mem_of_getElem? (i := 21) rfl) rfl
theorem wdt2_12 : Cond.code yK2_failing cK2_failing 6 (some .int) ∈ ALLW := wt2 (List.mem_of_getElem? (i := 12) rfl) rfl
theorem wdt2_8 : Cond.code yK0_results cK0_results 3 (some .int) ∈ ALLW := wt2 (List.mem_of_getElem? (i := 8) rfl) rfl
theorem wdt2_40 : Cond.code yK0_nthMember cK0_nthMember 4 (some .int) ∈ ALLW := wt2 (List.mem_of_getElem? (i := 40) rfl) rfl
theorem wdt2_37 : Cond.code yK0_nthResult cK0_nthResult 7 (some .int) ∈ ALLW := wt2 (List.mem_of_getElem? (i := 37) rfl) rfl
theorem wdt2_33 : Cond.code yK0_result cK0_result 2 (some .int) ∈ ALLW := wt2 (List.mem_of_getElem? (i := 33) rfl) rfl
theorem wdt2_49 : Cond.code yK1_isMember cK1_isMember 3 (some .boolean) ∈ ALLW := wt2 (List.mem_of_getElem? (i := 49) rfl) rfl
theorem wdt2_45 : Cond.code yK0_isOf cK0_isOf 3 (some .int) ∈ ALLW := wt2 (List.mem_of_getElem? (i := 45) rfl) rfl
theorem wdt2_65 : Cond.code yK1_leadingInto cK1_leadingInto 4 (some .int) ∈ ALLW := wt2 (List.mem_of_getElem? (i := 65) rfl) rfl
theorem wdt2_61 : Cond.code yK1_fewestBelows cK1_fewestBelows 6 (some .int) ∈ ALLW := wt2 (List.mem_of_getElem? (i := 61) rfl) rfl
theorem wdt2_57 : Cond.code yK1_nthOfReason cK1_nthOfReason 9 (some .int) ∈ ALLW := wt2 (List.mem_of_getElem? (i := 57) rfl) rfl
theorem wdt2_53 : Cond.code yK0_reason cK0_reason 4 (some .int) ∈ ALLW := wt2 (List.mem_of_getElem? (i := 53) rfl) rfl
theorem wdt2_74 : Cond.code yK3_add cK3_add 5 (some .int) ∈ ALLW := wt2 (List.mem_of_getElem? (i := 74) rfl) rfl
theorem wdt2_70 : Cond.code yK0_change cK0_change 6 (some .int) ∈ ALLW := wt2 (List.mem_of_getElem? (i := 70) rfl) rfl
theorem wdt2_82 : Cond.code yK2_has cK2_has 2 (some .boolean) ∈ ALLW := wt2 (List.mem_of_getElem? (i := 82) rfl) rfl
theorem wdt2_86 : Cond.code yK2_fails cK2_fails 4 (some .boolean) ∈ ALLW := wt2 (List.mem_of_getElem? (i := 86) rfl) rfl
theorem wdt2_91 : Cond.code yK0_offer cK0_offer 5 none ∈ ALLW := wt2 (List.mem_of_getElem? (i := 91) rfl) rfl
theorem wdt2_95 : Cond.code yK0_offerAbout cK0_offerAbout 7 none ∈ ALLW := wt2 (List.mem_of_getElem? (i := 95) rfl) rfl
theorem wdt2_78 : Cond.code yK0_suggest cK0_suggest 6 (some .int) ∈ ALLW := wt2 (List.mem_of_getElem? (i := 78) rfl) rfl
theorem wdt2_103 : Cond.code yK3_forget cK3_forget 1 none ∈ ALLW := wt2 (List.mem_of_getElem? (i := 103) rfl) rfl
theorem wdt2_107 : Cond.code yK4_forget cK4_forget 1 none ∈ ALLW := wt2 (List.mem_of_getElem? (i := 107) rfl) rfl
theorem wdt2_99 : Cond.code yK0_clear cK0_clear 2 (some .int) ∈ ALLW := wt2 (List.mem_of_getElem? (i := 99) rfl) rfl
theorem wdt2_111 : Cond.code yK0_tries cK0_tries 2 (some .int) ∈ ALLW := wt2 (List.mem_of_getElem? (i := 111) rfl) rfl
theorem wdt2_126 : Cond.code yJ2_numberOfLeadingZeros cJ2_numberOfLeadingZeros 2 (some .int) ∈ ALLW := wt2 (List.mem_of_getElem? (i := 126) rfl) rfl
theorem wdt2_123 : Cond.code yK0_nextSet cK0_nextSet 7 (some .int) ∈ ALLW := wt2 (List.mem_of_getElem? (i := 123) rfl) rfl
theorem wdt2_130 : Cond.code yK4_hasPartOf cK4_hasPartOf 3 (some .boolean) ∈ ALLW := wt2 (List.mem_of_getElem? (i := 130) rfl) rfl
theorem wdt2_138 : Cond.code yK1_copyFrom cK1_copyFrom 2 none ∈ ALLW := wt2 (List.mem_of_getElem? (i := 138) rfl) rfl
theorem wdt2_145 : Cond.code yK3_doAll cK3_doAll 4 none ∈ ALLW := wt2 (List.mem_of_getElem? (i := 145) rfl) rfl
theorem wdt2_134 : Cond.code yK0_tryOut cK0_tryOut 2 none ∈ ALLW := wt2 (List.mem_of_getElem? (i := 134) rfl) rfl
theorem wdt2_151 : Cond.code yK3_weightOf cK3_weightOf 4 (some .int) ∈ ALLW := wt2 (List.mem_of_getElem? (i := 151) rfl) rfl
theorem wdt2_155 : Cond.code yK4_add cK4_add 4 none ∈ ALLW := wt2 (List.mem_of_getElem? (i := 155) rfl) rfl
theorem wdt2_120 : Cond.code yK0_findSets cK0_findSets 6 none ∈ ALLW := wt2 (List.mem_of_getElem? (i := 120) rfl) rfl
theorem wdt2_115 : Cond.code yK0_find cK0_find 4 (some .int) ∈ ALLW := wt2 (List.mem_of_getElem? (i := 115) rfl) rfl
theorem wdt2_159 : Cond.code yK0_settled cK0_settled 1 (some .boolean) ∈ ALLW := wt2 (List.mem_of_getElem? (i := 159) rfl) rfl
theorem wdt2_163 : Cond.code yK0_tried cK0_tried 1 (some .int) ∈ ALLW := wt2 (List.mem_of_getElem? (i := 163) rfl) rfl
theorem wdt2_171 : Cond.code yK4_at cK4_at 2 (some .int) ∈ ALLW := wt2 (List.mem_of_getElem? (i := 171) rfl) rfl
theorem wdt2_167 : Cond.code yK0_set cK0_set 3 (some .int) ∈ ALLW := wt2 (List.mem_of_getElem? (i := 167) rfl) rfl
theorem wdt2_175 : Cond.code yK0_weight cK0_weight 3 (some .int) ∈ ALLW := wt2 (List.mem_of_getElem? (i := 175) rfl) rfl
theorem wdt2_179 : Cond.code yK0_breaks cK0_breaks 4 (some .int) ∈ ALLW := wt2 (List.mem_of_getElem? (i := 179) rfl) rfl
theorem wdt2_183 : Cond.code yK0_apply cK0_apply 3 (some .int) ∈ ALLW := wt2 (List.mem_of_getElem? (i := 183) rfl) rfl
theorem wdt2_196 : Cond.code yK0_putsAllRight cK0_putsAllRight 3 (some .boolean) ∈ ALLW := wt2 (List.mem_of_getElem? (i := 196) rfl) rfl
theorem wdt2_192 : Cond.code yK0_lightestCover cK0_lightestCover 7 (some .int) ∈ ALLW := wt2 (List.mem_of_getElem? (i := 192) rfl) rfl
theorem wdt2_188 : Cond.code yK0_cover cK0_cover 3 (some .int) ∈ ALLW := wt2 (List.mem_of_getElem? (i := 188) rfl) rfl
theorem wdt2_200 : Cond.code yK0_covered cK0_covered 2 (some .int) ∈ ALLW := wt2 (List.mem_of_getElem? (i := 200) rfl) rfl
theorem wdt2_225 : Cond.code yJ9_max cJ9_max 2 (some .int) ∈ ALLW := wt2 (List.mem_of_getElem? (i := 225) rfl) rfl
theorem wdt3_125 : Cond.code yJ2_stringSize cJ2_stringSize 4 (some .int) ∈ ALLW := wt3 (List.mem_of_getElem? (i := 125) rfl) rfl
theorem wdt3_150 : Cond.code yJ4_canEncode cJ4_canEncode 1 (some .boolean) ∈ ALLW := wt3 (List.mem_of_getElem? (i := 150) rfl) rfl
theorem wdt3_184 : Cond.code yK5_init cK5_init 1 none ∈ ALLW := wt3 (List.mem_of_getElem? (i := 184) rfl) rfl
theorem wdt4_25 : Cond.code yK5_in cK5_in 3 (some .boolean) ∈ ALLW := wt4 (List.mem_of_getElem? (i := 25) rfl) rfl
theorem wdt4_22 : Cond.code yK5_isTriple cK5_isTriple 3 (some .boolean) ∈ ALLW := wt4 (List.mem_of_getElem? (i := 22) rfl) rfl
theorem wdt4_28 : Cond.code yK5_codeOf cK5_codeOf 3 (some .int) ∈ ALLW := wt4 (List.mem_of_getElem? (i := 28) rfl) rfl
theorem wdt4_19 : Cond.code yK5_triple cK5_triple 5 (some .int) ∈ ALLW := wt4 (List.mem_of_getElem? (i := 19) rfl) rfl
theorem wdt4_32 : Cond.code yK5_drop cK5_drop 5 (some .int) ∈ ALLW := wt4 (List.mem_of_getElem? (i := 32) rfl) rfl
theorem wdt4_36 : Cond.code yK5_rule cK5_rule 6 (some .int) ∈ ALLW := wt4 (List.mem_of_getElem? (i := 36) rfl) rfl
theorem wdt4_44 : Cond.code yK5_begin cK5_begin 3 none ∈ ALLW := wt4 (List.mem_of_getElem? (i := 44) rfl) rfl
theorem wdt4_56 : Cond.code yK5_isOfNow cK5_isOfNow 6 (some .boolean) ∈ ALLW := wt4 (List.mem_of_getElem? (i := 56) rfl) rfl
theorem wdt4_60 : Cond.code yK5_holds cK5_holds 9 (some .boolean) ∈ ALLW := wt4 (List.mem_of_getElem? (i := 60) rfl) rfl
theorem wdt4_52 : Cond.code yK5_isResult cK5_isResult 3 (some .boolean) ∈ ALLW := wt4 (List.mem_of_getElem? (i := 52) rfl) rfl
theorem wdt4_48 : Cond.code yK5_resultsNow cK5_resultsNow 4 (some .int) ∈ ALLW := wt4 (List.mem_of_getElem? (i := 48) rfl) rfl
theorem wdt4_40 : Cond.code yK5_results cK5_results 1 (some .int) ∈ ALLW := wt4 (List.mem_of_getElem? (i := 40) rfl) rfl
theorem wdt4_64 : Cond.code yK5_result cK5_result 5 (some .int) ∈ ALLW := wt4 (List.mem_of_getElem? (i := 64) rfl) rfl
theorem wdt4_68 : Cond.code yK5_isOf cK5_isOf 3 (some .int) ∈ ALLW := wt4 (List.mem_of_getElem? (i := 68) rfl) rfl
theorem wdt4_76 : Cond.code yK5_measure cK5_measure 5 none ∈ ALLW := wt4 (List.mem_of_getElem? (i := 76) rfl) rfl
theorem wdt4_72 : Cond.code yK5_reason cK5_reason 9 (some .int) ∈ ALLW := wt4 (List.mem_of_getElem? (i := 72) rfl) rfl
theorem wdt4_84 : Cond.code yK5_isThere cK5_isThere 5 (some .boolean) ∈ ALLW := wt4 (List.mem_of_getElem? (i := 84) rfl) rfl
theorem wdt4_88 : Cond.code yK5_enter cK5_enter 4 none ∈ ALLW := wt4 (List.mem_of_getElem? (i := 88) rfl) rfl
theorem wdt4_80 : Cond.code yK5_change cK5_change 6 (some .int) ∈ ALLW := wt4 (List.mem_of_getElem? (i := 80) rfl) rfl
theorem wdt4_96 : Cond.code yK5_isPair cK5_isPair 3 (some .boolean) ∈ ALLW := wt4 (List.mem_of_getElem? (i := 96) rfl) rfl
theorem wdt4_100 : Cond.code yK5_offer cK5_offer 3 none ∈ ALLW := wt4 (List.mem_of_getElem? (i := 100) rfl) rfl
theorem wdt4_92 : Cond.code yK5_suggest cK5_suggest 9 (some .int) ∈ ALLW := wt4 (List.mem_of_getElem? (i := 92) rfl) rfl
theorem wdt4_104 : Cond.code yK5_clear cK5_clear 2 (some .int) ∈ ALLW := wt4 (List.mem_of_getElem? (i := 104) rfl) rfl
theorem wdt4_108 : Cond.code yK5_tries cK5_tries 2 (some .int) ∈ ALLW := wt4 (List.mem_of_getElem? (i := 108) rfl) rfl
theorem wdt4_116 : Cond.code yK5_first cK5_first 3 none ∈ ALLW := wt4 (List.mem_of_getElem? (i := 116) rfl) rfl
theorem wdt4_120 : Cond.code yK5_setOf cK5_setOf 4 (some .int) ∈ ALLW := wt4 (List.mem_of_getElem? (i := 120) rfl) rfl
theorem wdt4_124 : Cond.code yK5_hasOneWithin cK5_hasOneWithin 4 (some .boolean) ∈ ALLW := wt4 (List.mem_of_getElem? (i := 124) rfl) rfl
theorem wdt4_128 : Cond.code yK5_look cK5_look 4 none ∈ ALLW := wt4 (List.mem_of_getElem? (i := 128) rfl) rfl
theorem wdt4_132 : Cond.code yK5_next cK5_next 4 (some .boolean) ∈ ALLW := wt4 (List.mem_of_getElem? (i := 132) rfl) rfl
theorem wdt4_140 : Cond.code yK5_weightOf cK5_weightOf 4 (some .int) ∈ ALLW := wt4 (List.mem_of_getElem? (i := 140) rfl) rfl
theorem wdt4_143 : Cond.code yK5_sizeOf cK5_sizeOf 3 (some .int) ∈ ALLW := wt4 (List.mem_of_getElem? (i := 143) rfl) rfl
theorem wdt4_136 : Cond.code yK5_sort cK5_sort 5 none ∈ ALLW := wt4 (List.mem_of_getElem? (i := 136) rfl) rfl
theorem wdt4_112 : Cond.code yK5_find cK5_find 7 (some .int) ∈ ALLW := wt4 (List.mem_of_getElem? (i := 112) rfl) rfl
theorem wdt4_151 : Cond.code yK5_weigh cK5_weigh 3 none ∈ ALLW := wt4 (List.mem_of_getElem? (i := 151) rfl) rfl
theorem wdt4_147 : Cond.code yK5_cover cK5_cover 4 (some .int) ∈ ALLW := wt4 (List.mem_of_getElem? (i := 147) rfl) rfl
theorem wdt4_155 : Cond.code yK5_settled cK5_settled 1 (some .boolean) ∈ ALLW := wt4 (List.mem_of_getElem? (i := 155) rfl) rfl
theorem wdt4_159 : Cond.code yK5_tried cK5_tried 1 (some .int) ∈ ALLW := wt4 (List.mem_of_getElem? (i := 159) rfl) rfl
theorem wdt4_167 : Cond.code yK5_isFound cK5_isFound 2 (some .boolean) ∈ ALLW := wt4 (List.mem_of_getElem? (i := 167) rfl) rfl
theorem wdt4_170 : Cond.code yK5_member cK5_member 4 (some .int) ∈ ALLW := wt4 (List.mem_of_getElem? (i := 170) rfl) rfl
theorem wdt4_163 : Cond.code yK5_set cK5_set 3 (some .int) ∈ ALLW := wt4 (List.mem_of_getElem? (i := 163) rfl) rfl
theorem wdt4_174 : Cond.code yK5_weight cK5_weight 2 (some .int) ∈ ALLW := wt4 (List.mem_of_getElem? (i := 174) rfl) rfl
theorem wdt4_178 : Cond.code yK5_breaks cK5_breaks 7 (some .int) ∈ ALLW := wt4 (List.mem_of_getElem? (i := 178) rfl) rfl
theorem wdt4_182 : Cond.code yK5_apply cK5_apply 3 (some .int) ∈ ALLW := wt4 (List.mem_of_getElem? (i := 182) rfl) rfl
theorem wdt4_186 : Cond.code yK5_covered cK5_covered 2 (some .int) ∈ ALLW := wt4 (List.mem_of_getElem? (i := 186) rfl) rfl
theorem wdt4_194 : Cond.code yK5_tell cK5_tell 2 none ∈ ALLW := wt4 (List.mem_of_getElem? (i := 194) rfl) rfl
theorem wdt4_198 : Cond.code yK5_tellNumber cK5_tellNumber 2 none ∈ ALLW := wt4 (List.mem_of_getElem? (i := 198) rfl) rfl
theorem wdt4_190 : Cond.code yK5_sentence cK5_sentence 3 (some .int) ∈ ALLW := wt4 (List.mem_of_getElem? (i := 190) rfl) rfl
theorem wdt4_202 : Cond.code yK5_letter cK5_letter 2 (some .int) ∈ ALLW := wt4 (List.mem_of_getElem? (i := 202) rfl) rfl
theorem inK0 : ∀ w ∈ u_ws RK0 TK0 10, w ∈ ALLW := by
  intro w h
  have h : w ∈ ([Cond.laysFinal "ReportCauses" "ReportCauses" "triples" "LReportCauses$Triples;", Cond.laysFinal "ReportCauses" "ReportCauses" "trial" "LReportCauses$Triples;", Cond.laysFinal "ReportCauses" "ReportCauses" "rules" "LReportCauses$Rules;", Cond.laysFinal "ReportCauses" "ReportCauses" "changes" "LReportCauses$Changes;", Cond.laysFinal "ReportCauses" "ReportCauses" "found" "LReportCauses$Findings;", Cond.laysFinal "ReportCauses" "ReportCauses" "told" "Ljava/lang/StringBuilder;", Cond.lays "ReportCauses" "ReportCauses" "coveredSet" "I", Cond.lays "ReportCauses" "ReportCauses" "allowedTries" "I", Cond.lays "ReportCauses" "ReportCauses" "latestTried" "I", Cond.lays "ReportCauses" "ReportCauses" "latestSettled" "Z"] : List Cond) := h
  simp only [List.mem_cons, List.not_mem_nil, or_false] at h
  rcases h with rfl | rfl | rfl | rfl | rfl | rfl | rfl | rfl | rfl | rfl
  · exact wdt1_153
  · exact wdt1_155
  · exact wdt1_157
  · exact wdt1_159
  · exact wdt1_161
  · exact wdt1_163
  · exact wdt1_165
  · exact wdt1_167
  · exact wdt1_169
  · exact wdt1_171
theorem inK1 : ∀ w ∈ u_ws RK1 TK1 4, w ∈ ALLW := by
  intro w h
  have h : w ∈ ([Cond.laysFinal "ReportCauses$Triples" "ReportCauses$Triples" "objects" "[I", Cond.laysFinal "ReportCauses$Triples" "ReportCauses$Triples" "members" "[I", Cond.laysFinal "ReportCauses$Triples" "ReportCauses$Triples" "within" "[I", Cond.lays "ReportCauses$Triples" "ReportCauses$Triples" "isSorted" "Z"] : List Cond) := h
  simp only [List.mem_cons, List.not_mem_nil, or_false] at h
  rcases h with rfl | rfl | rfl | rfl
  · exact wdt1_36
  · exact wdt1_38
  · exact wdt1_40
  · exact wdt1_42
theorem inK2 : ∀ w ∈ u_ws RK2 TK2 5, w ∈ ALLW := by
  intro w h
  have h : w ∈ ([Cond.laysFinal "ReportCauses$Rules" "ReportCauses$Rules" "kind" "[I", Cond.laysFinal "ReportCauses$Rules" "ReportCauses$Rules" "target" "[I", Cond.laysFinal "ReportCauses$Rules" "ReportCauses$Rules" "predicate" "[I", Cond.laysFinal "ReportCauses$Rules" "ReportCauses$Rules" "number" "[I", Cond.lays "ReportCauses$Rules" "ReportCauses$Rules" "count" "I"] : List Cond) := h
  simp only [List.mem_cons, List.not_mem_nil, or_false] at h
  rcases h with rfl | rfl | rfl | rfl | rfl
  · exact wdt1_62
  · exact wdt1_64
  · exact wdt1_66
  · exact wdt1_68
  · exact wdt1_70
theorem inK3 : ∀ w ∈ u_ws RK3 TK3 4, w ∈ ALLW := by
  intro w h
  have h : w ∈ ([Cond.laysFinal "ReportCauses$Changes" "ReportCauses$Changes" "puts" "[Z", Cond.laysFinal "ReportCauses$Changes" "ReportCauses$Changes" "code" "[I", Cond.laysFinal "ReportCauses$Changes" "ReportCauses$Changes" "weighs" "[I", Cond.lays "ReportCauses$Changes" "ReportCauses$Changes" "count" "I"] : List Cond) := h
  simp only [List.mem_cons, List.not_mem_nil, or_false] at h
  rcases h with rfl | rfl | rfl | rfl
  · exact wdt1_84
  · exact wdt1_86
  · exact wdt1_88
  · exact wdt1_90
theorem inK4 : ∀ w ∈ u_ws RK4 TK4 3, w ∈ ALLW := by
  intro w h
  have h : w ∈ ([Cond.laysFinal "ReportCauses$Findings" "ReportCauses$Findings" "sets" "[I", Cond.laysFinal "ReportCauses$Findings" "ReportCauses$Findings" "sums" "[I", Cond.lays "ReportCauses$Findings" "ReportCauses$Findings" "count" "I"] : List Cond) := h
  simp only [List.mem_cons, List.not_mem_nil, or_false] at h
  rcases h with rfl | rfl | rfl
  · exact wdt1_104
  · exact wdt1_106
  · exact wdt1_108
theorem inK5 : ∀ w ∈ u_ws RK5 TK5 23, w ∈ ALLW := by
  intro w h
  have h : w ∈ ([Cond.laysFinal "ReportCausesModel" "ReportCausesModel" "there" "[Z", Cond.laysFinal "ReportCausesModel" "ReportCausesModel" "now" "[Z", Cond.lays "ReportCausesModel" "ReportCausesModel" "rules" "I", Cond.laysFinal "ReportCausesModel" "ReportCausesModel" "kinds" "[I", Cond.laysFinal "ReportCausesModel" "ReportCausesModel" "targets" "[I", Cond.laysFinal "ReportCausesModel" "ReportCausesModel" "predicates" "[I", Cond.laysFinal "ReportCausesModel" "ReportCausesModel" "numbers" "[I", Cond.lays "ReportCausesModel" "ReportCausesModel" "changes" "I", Cond.laysFinal "ReportCausesModel" "ReportCausesModel" "puts" "[Z", Cond.laysFinal "ReportCausesModel" "ReportCausesModel" "codes" "[I", Cond.laysFinal "ReportCausesModel" "ReportCausesModel" "weights" "[I", Cond.lays "ReportCausesModel" "ReportCausesModel" "mostTries" "I", Cond.lays "ReportCausesModel" "ReportCausesModel" "tried" "I", Cond.lays "ReportCausesModel" "ReportCausesModel" "settled" "Z", Cond.lays "ReportCausesModel" "ReportCausesModel" "found" "I", Cond.laysFinal "ReportCausesModel" "ReportCausesModel" "sets" "[I", Cond.lays "ReportCausesModel" "ReportCausesModel" "isCovered" "Z", Cond.lays "ReportCausesModel" "ReportCausesModel" "covered" "I", Cond.laysFinal "ReportCausesModel" "ReportCausesModel" "picks" "[I", Cond.laysFinal "ReportCausesModel" "ReportCausesModel" "classes" "[Z", Cond.laysFinal "ReportCausesModel" "ReportCausesModel" "steps" "[I", Cond.laysFinal "ReportCausesModel" "ReportCausesModel" "told" "[I", Cond.lays "ReportCausesModel" "ReportCausesModel" "toldMany" "I"] : List Cond) := h
  simp only [List.mem_cons, List.not_mem_nil, or_false] at h
  rcases h with rfl | rfl | rfl | rfl | rfl | rfl | rfl | rfl | rfl | rfl | rfl | rfl | rfl | rfl | rfl | rfl | rfl | rfl | rfl | rfl | rfl | rfl | rfl
  · exact wdt3_209
  · exact wdt3_211
  · exact wdt3_213
  · exact wdt3_215
  · exact wdt3_217
  · exact wdt3_219
  · exact wdt3_221
  · exact wdt3_223
  · exact wdt3_225
  · exact wdt3_227
  · exact wdt3_229
  · exact wdt3_231
  · exact wdt3_233
  · exact wdt3_235
  · exact wdt3_237
  · exact wdt3_239
  · exact wdt4_1
  · exact wdt4_3
  · exact wdt4_5
  · exact wdt4_7
  · exact wdt4_9
  · exact wdt4_11
  · exact wdt4_13
theorem inK6 : ∀ w ∈ u_ws RK6 TK6 4, w ∈ ALLW := by
  intro w h
  have h : w ∈ ([Cond.lays "java/lang/StringBuilder" "java/lang/AbstractStringBuilder" "value" "[B", Cond.lays "java/lang/StringBuilder" "java/lang/AbstractStringBuilder" "coder" "B", Cond.lays "java/lang/StringBuilder" "java/lang/AbstractStringBuilder" "maybeLatin1" "Z", Cond.lays "java/lang/StringBuilder" "java/lang/AbstractStringBuilder" "count" "I"] : List Cond) := h
  simp only [List.mem_cons, List.not_mem_nil, or_false] at h
  rcases h with rfl | rfl | rfl | rfl
  · exact wdt1_133
  · exact wdt1_135
  · exact wdt1_137
  · exact wdt1_139
end
section
theorem dK1_init_0 : decode cK1_init 0 = .ok (.aload_n 0, 1) := by decide +kernel
theorem dK1_init_1 : decode cK1_init 1 = .ok (.invokespecial 3, 3) := by decide +kernel
theorem dK1_init_4 : decode cK1_init 4 = .ok (.aload_n 0, 1) := by decide +kernel
theorem dK1_init_5 : decode cK1_init 5 = .ok (.bipush 72, 2) := by decide +kernel
theorem dK1_init_7 : decode cK1_init 7 = .ok (.newarray .int, 2) := by decide +kernel
theorem dK1_init_9 : decode cK1_init 9 = .ok (.putfield 9, 3) := by decide +kernel
theorem dK1_init_12 : decode cK1_init 12 = .ok (.aload_n 0, 1) := by decide +kernel
theorem dK1_init_13 : decode cK1_init 13 = .ok (.bipush 12, 2) := by decide +kernel
theorem dK1_init_15 : decode cK1_init 15 = .ok (.newarray .int, 2) := by decide +kernel
theorem dK1_init_17 : decode cK1_init 17 = .ok (.putfield 15, 3) := by decide +kernel
theorem dK1_init_20 : decode cK1_init 20 = .ok (.aload_n 0, 1) := by decide +kernel
theorem dK1_init_21 : decode cK1_init 21 = .ok (.bipush 12, 2) := by decide +kernel
theorem dK1_init_23 : decode cK1_init 23 = .ok (.newarray .int, 2) := by decide +kernel
theorem dK1_init_25 : decode cK1_init 25 = .ok (.putfield 18, 3) := by decide +kernel
theorem dK1_init_28 : decode cK1_init 28 = .ok (.aload_n 0, 1) := by decide +kernel
theorem dK1_init_29 : decode cK1_init 29 = .ok (.iconst 1, 1) := by decide +kernel
theorem dK1_init_30 : decode cK1_init 30 = .ok (.putfield 21, 3) := by decide +kernel
theorem dK1_init_33 : decode cK1_init 33 = .ok (.return_, 1) := by decide +kernel
theorem dK2_init_0 : decode cK2_init 0 = .ok (.aload_n 0, 1) := by decide +kernel
theorem dK2_init_1 : decode cK2_init 1 = .ok (.invokespecial 3, 3) := by decide +kernel
theorem dK2_init_4 : decode cK2_init 4 = .ok (.aload_n 0, 1) := by decide +kernel
theorem dK2_init_5 : decode cK2_init 5 = .ok (.bipush 10, 2) := by decide +kernel
theorem dK2_init_7 : decode cK2_init 7 = .ok (.newarray .int, 2) := by decide +kernel
theorem dK2_init_9 : decode cK2_init 9 = .ok (.putfield 9, 3) := by decide +kernel
theorem dK2_init_12 : decode cK2_init 12 = .ok (.aload_n 0, 1) := by decide +kernel
theorem dK2_init_13 : decode cK2_init 13 = .ok (.bipush 10, 2) := by decide +kernel
theorem dK2_init_15 : decode cK2_init 15 = .ok (.newarray .int, 2) := by decide +kernel
theorem dK2_init_17 : decode cK2_init 17 = .ok (.putfield 15, 3) := by decide +kernel
theorem dK2_init_20 : decode cK2_init 20 = .ok (.aload_n 0, 1) := by decide +kernel
theorem dK2_init_21 : decode cK2_init 21 = .ok (.bipush 10, 2) := by decide +kernel
theorem dK2_init_23 : decode cK2_init 23 = .ok (.newarray .int, 2) := by decide +kernel
theorem dK2_init_25 : decode cK2_init 25 = .ok (.putfield 18, 3) := by decide +kernel
theorem dK2_init_28 : decode cK2_init 28 = .ok (.aload_n 0, 1) := by decide +kernel
theorem dK2_init_29 : decode cK2_init 29 = .ok (.bipush 10, 2) := by decide +kernel
theorem dK2_init_31 : decode cK2_init 31 = .ok (.newarray .int, 2) := by decide +kernel
theorem dK2_init_33 : decode cK2_init 33 = .ok (.putfield 21, 3) := by decide +kernel
theorem dK2_init_36 : decode cK2_init 36 = .ok (.aload_n 0, 1) := by decide +kernel
theorem dK2_init_37 : decode cK2_init 37 = .ok (.iconst 0, 1) := by decide +kernel
theorem dK2_init_38 : decode cK2_init 38 = .ok (.putfield 24, 3) := by decide +kernel
theorem dK2_init_41 : decode cK2_init 41 = .ok (.return_, 1) := by decide +kernel
theorem dK3_init_0 : decode cK3_init 0 = .ok (.aload_n 0, 1) := by decide +kernel
theorem dK3_init_1 : decode cK3_init 1 = .ok (.invokespecial 3, 3) := by decide +kernel
theorem dK3_init_4 : decode cK3_init 4 = .ok (.aload_n 0, 1) := by decide +kernel
theorem dK3_init_5 : decode cK3_init 5 = .ok (.bipush 12, 2) := by decide +kernel
theorem dK3_init_7 : decode cK3_init 7 = .ok (.newarray .boolean, 2) := by decide +kernel
theorem dK3_init_9 : decode cK3_init 9 = .ok (.putfield 9, 3) := by decide +kernel
theorem dK3_init_12 : decode cK3_init 12 = .ok (.aload_n 0, 1) := by decide +kernel
theorem dK3_init_13 : decode cK3_init 13 = .ok (.bipush 12, 2) := by decide +kernel
theorem dK3_init_15 : decode cK3_init 15 = .ok (.newarray .int, 2) := by decide +kernel
theorem dK3_init_17 : decode cK3_init 17 = .ok (.putfield 15, 3) := by decide +kernel
theorem dK3_init_20 : decode cK3_init 20 = .ok (.aload_n 0, 1) := by decide +kernel
theorem dK3_init_21 : decode cK3_init 21 = .ok (.bipush 12, 2) := by decide +kernel
theorem dK3_init_23 : decode cK3_init 23 = .ok (.newarray .int, 2) := by decide +kernel
theorem dK3_init_25 : decode cK3_init 25 = .ok (.putfield 19, 3) := by decide +kernel
theorem dK3_init_28 : decode cK3_init 28 = .ok (.aload_n 0, 1) := by decide +kernel
theorem dK3_init_29 : decode cK3_init 29 = .ok (.iconst 0, 1) := by decide +kernel
theorem dK3_init_30 : decode cK3_init 30 = .ok (.putfield 22, 3) := by decide +kernel
theorem dK3_init_33 : decode cK3_init 33 = .ok (.return_, 1) := by decide +kernel
theorem dK4_init_0 : decode cK4_init 0 = .ok (.aload_n 0, 1) := by decide +kernel
theorem dK4_init_1 : decode cK4_init 1 = .ok (.invokespecial 3, 3) := by decide +kernel
theorem dK4_init_4 : decode cK4_init 4 = .ok (.aload_n 0, 1) := by decide +kernel
theorem dK4_init_5 : decode cK4_init 5 = .ok (.bipush 30, 2) := by decide +kernel
theorem dK4_init_7 : decode cK4_init 7 = .ok (.newarray .int, 2) := by decide +kernel
theorem dK4_init_9 : decode cK4_init 9 = .ok (.putfield 9, 3) := by decide +kernel
theorem dK4_init_12 : decode cK4_init 12 = .ok (.aload_n 0, 1) := by decide +kernel
theorem dK4_init_13 : decode cK4_init 13 = .ok (.bipush 30, 2) := by decide +kernel
theorem dK4_init_15 : decode cK4_init 15 = .ok (.newarray .int, 2) := by decide +kernel
theorem dK4_init_17 : decode cK4_init 17 = .ok (.putfield 15, 3) := by decide +kernel
theorem dK4_init_20 : decode cK4_init 20 = .ok (.aload_n 0, 1) := by decide +kernel
theorem dK4_init_21 : decode cK4_init 21 = .ok (.iconst 0, 1) := by decide +kernel
theorem dK4_init_22 : decode cK4_init 22 = .ok (.putfield 18, 3) := by decide +kernel
theorem dK4_init_25 : decode cK4_init 25 = .ok (.return_, 1) := by decide +kernel
theorem dJ5_newBytesLength_0 : decode cJ5_newBytesLength 0 = .ok (.iload_n 0, 1) := by decide +kernel
theorem dJ5_newBytesLength_1 : decode cJ5_newBytesLength 1 = .ok (.ifCond .ge 11, 3) := by decide +kernel
theorem dJ5_newBytesLength_12 : decode cJ5_newBytesLength 12 = .ok (.iload_n 0, 1) := by decide +kernel
theorem dJ5_newBytesLength_13 : decode cJ5_newBytesLength 13 = .ok (.ldc 20, 2) := by decide +kernel
theorem dJ5_newBytesLength_15 : decode cJ5_newBytesLength 15 = .ok (.if_icmp .lt 40, 3) := by decide +kernel
theorem dJ5_newBytesLength_18 : decode cJ5_newBytesLength 18 = .ok (.new 21, 3) := by decide +kernel
theorem dJ5_newBytesLength_55 : decode cJ5_newBytesLength 55 = .ok (.iload_n 0, 1) := by decide +kernel
theorem dJ5_newBytesLength_56 : decode cJ5_newBytesLength 56 = .ok (.iconst 1, 1) := by decide +kernel
theorem dJ5_newBytesLength_57 : decode cJ5_newBytesLength 57 = .ok (.ishl, 1) := by decide +kernel
theorem dJ5_newBytesLength_58 : decode cJ5_newBytesLength 58 = .ok (.ireturn, 1) := by decide +kernel
theorem dK0_triple_0 : decode cK0_triple 0 = .ok (.aload_n 0, 1) := by decide +kernel
theorem dK0_triple_1 : decode cK0_triple 1 = .ok (.iconst 1, 1) := by decide +kernel
theorem dK0_triple_2 : decode cK0_triple 2 = .ok (.iload_n 1, 1) := by decide +kernel
theorem dK0_triple_3 : decode cK0_triple 3 = .ok (.iload_n 2, 1) := by decide +kernel
theorem dK0_triple_4 : decode cK0_triple 4 = .ok (.iload_n 3, 1) := by decide +kernel
theorem dK0_triple_5 : decode cK0_triple 5 = .ok (.invokevirtual 61, 3) := by decide +kernel
theorem dK0_triple_8 : decode cK0_triple 8 = .ok (.ireturn, 1) := by decide +kernel
theorem dK0_putOrTake_0 : decode cK0_putOrTake 0 = .ok (.iload_n 2, 1) := by decide +kernel
theorem dK0_putOrTake_1 : decode cK0_putOrTake 1 = .ok (.iload_n 3, 1) := by decide +kernel
theorem dK0_putOrTake_2 : decode cK0_putOrTake 2 = .ok (.iload 4, 2) := by decide +kernel
theorem dK0_putOrTake_4 : decode cK0_putOrTake 4 = .ok (.invokestatic 104, 3) := by decide +kernel
theorem dK0_putOrTake_7 : decode cK0_putOrTake 7 = .ok (.ifCond .ne 5, 3) := by decide +kernel
theorem dK0_putOrTake_10 : decode cK0_putOrTake 10 = .ok (.iconst (-1), 1) := by decide +kernel
theorem dK0_putOrTake_11 : decode cK0_putOrTake 11 = .ok (.ireturn, 1) := by decide +kernel
theorem dK0_putOrTake_12 : decode cK0_putOrTake 12 = .ok (.aload_n 0, 1) := by decide +kernel
theorem dK0_putOrTake_13 : decode cK0_putOrTake 13 = .ok (.getfield 12, 3) := by decide +kernel
theorem dK0_putOrTake_16 : decode cK0_putOrTake 16 = .ok (.iload_n 2, 1) := by decide +kernel
theorem dK0_putOrTake_17 : decode cK0_putOrTake 17 = .ok (.iload_n 3, 1) := by decide +kernel
theorem dK0_putOrTake_18 : decode cK0_putOrTake 18 = .ok (.iload 4, 2) := by decide +kernel
theorem dK0_putOrTake_20 : decode cK0_putOrTake 20 = .ok (.invokevirtual 126, 3) := by decide +kernel
theorem dK0_putOrTake_23 : decode cK0_putOrTake 23 = .ok (.iload_n 1, 1) := by decide +kernel
theorem dK0_putOrTake_24 : decode cK0_putOrTake 24 = .ok (.if_icmp .ne 5, 3) := by decide +kernel
theorem dK0_putOrTake_27 : decode cK0_putOrTake 27 = .ok (.iconst 0, 1) := by decide +kernel
theorem dK0_putOrTake_28 : decode cK0_putOrTake 28 = .ok (.ireturn, 1) := by decide +kernel
theorem dK0_putOrTake_29 : decode cK0_putOrTake 29 = .ok (.aload_n 0, 1) := by decide +kernel
theorem dK0_putOrTake_30 : decode cK0_putOrTake 30 = .ok (.getfield 12, 3) := by decide +kernel
theorem dK0_putOrTake_33 : decode cK0_putOrTake 33 = .ok (.iload_n 1, 1) := by decide +kernel
theorem dK0_putOrTake_34 : decode cK0_putOrTake 34 = .ok (.iload_n 2, 1) := by decide +kernel
theorem dK0_putOrTake_35 : decode cK0_putOrTake 35 = .ok (.iload_n 3, 1) := by decide +kernel
theorem dK0_putOrTake_36 : decode cK0_putOrTake 36 = .ok (.iload 4, 2) := by decide +kernel
theorem dK0_putOrTake_38 : decode cK0_putOrTake 38 = .ok (.invokestatic 108, 3) := by decide +kernel
theorem dK0_putOrTake_41 : decode cK0_putOrTake 41 = .ok (.invokevirtual 206, 3) := by decide +kernel
theorem dK0_putOrTake_44 : decode cK0_putOrTake 44 = .ok (.aload_n 0, 1) := by decide +kernel
theorem dK0_putOrTake_45 : decode cK0_putOrTake 45 = .ok (.getfield 12, 3) := by decide +kernel
theorem dK0_putOrTake_48 : decode cK0_putOrTake 48 = .ok (.invokevirtual 167, 3) := by decide +kernel
theorem dK0_putOrTake_51 : decode cK0_putOrTake 51 = .ok (.iconst 1, 1) := by decide +kernel
theorem dK0_putOrTake_52 : decode cK0_putOrTake 52 = .ok (.ireturn, 1) := by decide +kernel
theorem dK0_isTriple_0 : decode cK0_isTriple 0 = .ok (.iload_n 0, 1) := by decide +kernel
theorem dK0_isTriple_1 : decode cK0_isTriple 1 = .ok (.invokestatic 65, 3) := by decide +kernel
theorem dK0_isTriple_4 : decode cK0_isTriple 4 = .ok (.ifCond .eq 21, 3) := by decide +kernel
theorem dK0_isTriple_7 : decode cK0_isTriple 7 = .ok (.iload_n 1, 1) := by decide +kernel
theorem dK0_isTriple_8 : decode cK0_isTriple 8 = .ok (.invokestatic 69, 3) := by decide +kernel
theorem dK0_isTriple_11 : decode cK0_isTriple 11 = .ok (.ifCond .eq 14, 3) := by decide +kernel
theorem dK0_isTriple_14 : decode cK0_isTriple 14 = .ok (.iload_n 2, 1) := by decide +kernel
theorem dK0_isTriple_15 : decode cK0_isTriple 15 = .ok (.invokestatic 65, 3) := by decide +kernel
theorem dK0_isTriple_18 : decode cK0_isTriple 18 = .ok (.ifCond .eq 7, 3) := by decide +kernel
theorem dK0_isTriple_21 : decode cK0_isTriple 21 = .ok (.iconst 1, 1) := by decide +kernel
theorem dK0_isTriple_22 : decode cK0_isTriple 22 = .ok (.goto 4, 3) := by decide +kernel
theorem dK0_isTriple_25 : decode cK0_isTriple 25 = .ok (.iconst 0, 1) := by decide +kernel
theorem dK0_isTriple_26 : decode cK0_isTriple 26 = .ok (.ireturn, 1) := by decide +kernel
theorem dK0_isNode_0 : decode cK0_isNode 0 = .ok (.iload_n 0, 1) := by decide +kernel
theorem dK0_isNode_1 : decode cK0_isNode 1 = .ok (.ifCond .lt 13, 3) := by decide +kernel
theorem dK0_isNode_4 : decode cK0_isNode 4 = .ok (.iload_n 0, 1) := by decide +kernel
theorem dK0_isNode_5 : decode cK0_isNode 5 = .ok (.bipush 12, 2) := by decide +kernel
theorem dK0_isNode_7 : decode cK0_isNode 7 = .ok (.if_icmp .ge 7, 3) := by decide +kernel
theorem dK0_isNode_10 : decode cK0_isNode 10 = .ok (.iconst 1, 1) := by decide +kernel
theorem dK0_isNode_11 : decode cK0_isNode 11 = .ok (.goto 4, 3) := by decide +kernel
theorem dK0_isNode_14 : decode cK0_isNode 14 = .ok (.iconst 0, 1) := by decide +kernel
theorem dK0_isNode_15 : decode cK0_isNode 15 = .ok (.ireturn, 1) := by decide +kernel
theorem dK0_isPredicate_0 : decode cK0_isPredicate 0 = .ok (.iload_n 0, 1) := by decide +kernel
theorem dK0_isPredicate_1 : decode cK0_isPredicate 1 = .ok (.ifCond .lt 13, 3) := by decide +kernel
theorem dK0_isPredicate_4 : decode cK0_isPredicate 4 = .ok (.iload_n 0, 1) := by decide +kernel
theorem dK0_isPredicate_5 : decode cK0_isPredicate 5 = .ok (.bipush 6, 2) := by decide +kernel
theorem dK0_isPredicate_7 : decode cK0_isPredicate 7 = .ok (.if_icmp .ge 7, 3) := by decide +kernel
theorem dK0_isPredicate_10 : decode cK0_isPredicate 10 = .ok (.iconst 1, 1) := by decide +kernel
theorem dK0_isPredicate_11 : decode cK0_isPredicate 11 = .ok (.goto 4, 3) := by decide +kernel
theorem dK0_isPredicate_14 : decode cK0_isPredicate 14 = .ok (.iconst 0, 1) := by decide +kernel
theorem dK0_isPredicate_15 : decode cK0_isPredicate 15 = .ok (.ireturn, 1) := by decide +kernel
theorem dK1_has_0 : decode cK1_has 0 = .ok (.aload_n 0, 1) := by decide +kernel
theorem dK1_has_1 : decode cK1_has 1 = .ok (.iload_n 1, 1) := by decide +kernel
theorem dK1_has_2 : decode cK1_has 2 = .ok (.iload_n 2, 1) := by decide +kernel
theorem dK1_has_3 : decode cK1_has 3 = .ok (.invokevirtual 25, 3) := by decide +kernel
theorem dK1_has_6 : decode cK1_has 6 = .ok (.iload_n 3, 1) := by decide +kernel
theorem dK1_has_7 : decode cK1_has 7 = .ok (.invokestatic 29, 3) := by decide +kernel
theorem dK1_has_10 : decode cK1_has 10 = .ok (.ireturn, 1) := by decide +kernel
theorem dK1_objectsOf_0 : decode cK1_objectsOf 0 = .ok (.aload_n 0, 1) := by decide +kernel
theorem dK1_objectsOf_1 : decode cK1_objectsOf 1 = .ok (.getfield 9, 3) := by decide +kernel
theorem dK1_objectsOf_4 : decode cK1_objectsOf 4 = .ok (.bipush 6, 2) := by decide +kernel
theorem dK1_objectsOf_6 : decode cK1_objectsOf 6 = .ok (.iload_n 1, 1) := by decide +kernel
theorem dK1_objectsOf_7 : decode cK1_objectsOf 7 = .ok (.imul, 1) := by decide +kernel
theorem dK1_objectsOf_8 : decode cK1_objectsOf 8 = .ok (.iload_n 2, 1) := by decide +kernel
theorem dK1_objectsOf_9 : decode cK1_objectsOf 9 = .ok (.iadd, 1) := by decide +kernel
theorem dK1_objectsOf_10 : decode cK1_objectsOf 10 = .ok (.iaload, 1) := by decide +kernel
theorem dK1_objectsOf_11 : decode cK1_objectsOf 11 = .ok (.ireturn, 1) := by decide +kernel
theorem dK0_hasMember_0 : decode cK0_hasMember 0 = .ok (.iload_n 0, 1) := by decide +kernel
theorem dK0_hasMember_1 : decode cK0_hasMember 1 = .ok (.iload_n 1, 1) := by decide +kernel
theorem dK0_hasMember_2 : decode cK0_hasMember 2 = .ok (.ishr, 1) := by decide +kernel
theorem dK0_hasMember_3 : decode cK0_hasMember 3 = .ok (.iconst 1, 1) := by decide +kernel
theorem dK0_hasMember_4 : decode cK0_hasMember 4 = .ok (.iand, 1) := by decide +kernel
theorem dK0_hasMember_5 : decode cK0_hasMember 5 = .ok (.ifCond .eq 7, 3) := by decide +kernel
theorem dK0_hasMember_8 : decode cK0_hasMember 8 = .ok (.iconst 1, 1) := by decide +kernel
theorem dK0_hasMember_9 : decode cK0_hasMember 9 = .ok (.goto 4, 3) := by decide +kernel
theorem dK0_hasMember_12 : decode cK0_hasMember 12 = .ok (.iconst 0, 1) := by decide +kernel
theorem dK0_hasMember_13 : decode cK0_hasMember 13 = .ok (.ireturn, 1) := by decide +kernel
theorem dK0_codeOf_0 : decode cK0_codeOf 0 = .ok (.bipush 72, 2) := by decide +kernel
theorem dK0_codeOf_2 : decode cK0_codeOf 2 = .ok (.iload_n 0, 1) := by decide +kernel
theorem dK0_codeOf_3 : decode cK0_codeOf 3 = .ok (.imul, 1) := by decide +kernel
theorem dK0_codeOf_4 : decode cK0_codeOf 4 = .ok (.bipush 12, 2) := by decide +kernel
theorem dK0_codeOf_6 : decode cK0_codeOf 6 = .ok (.iload_n 1, 1) := by decide +kernel
theorem dK0_codeOf_7 : decode cK0_codeOf 7 = .ok (.imul, 1) := by decide +kernel
theorem dK0_codeOf_8 : decode cK0_codeOf 8 = .ok (.iadd, 1) := by decide +kernel
theorem dK0_codeOf_9 : decode cK0_codeOf 9 = .ok (.iload_n 2, 1) := by decide +kernel
theorem dK0_codeOf_10 : decode cK0_codeOf 10 = .ok (.iadd, 1) := by decide +kernel
theorem dK0_codeOf_11 : decode cK0_codeOf 11 = .ok (.ireturn, 1) := by decide +kernel
theorem dK1_alter_0 : decode cK1_alter 0 = .ok (.iload_n 2, 1) := by decide +kernel
theorem dK1_alter_1 : decode cK1_alter 1 = .ok (.bipush 12, 2) := by decide +kernel
theorem dK1_alter_3 : decode cK1_alter 3 = .ok (.idiv, 1) := by decide +kernel
theorem dK1_alter_4 : decode cK1_alter 4 = .ok (.istore_n 3, 1) := by decide +kernel
theorem dK1_alter_5 : decode cK1_alter 5 = .ok (.iconst 1, 1) := by decide +kernel
theorem dK1_alter_6 : decode cK1_alter 6 = .ok (.iload_n 2, 1) := by decide +kernel
theorem dK1_alter_7 : decode cK1_alter 7 = .ok (.bipush 12, 2) := by decide +kernel
theorem dK1_alter_9 : decode cK1_alter 9 = .ok (.irem, 1) := by decide +kernel
theorem dK1_alter_10 : decode cK1_alter 10 = .ok (.ishl, 1) := by decide +kernel
theorem dK1_alter_11 : decode cK1_alter 11 = .ok (.istore 4, 2) := by decide +kernel
theorem dK1_alter_13 : decode cK1_alter 13 = .ok (.aload_n 0, 1) := by decide +kernel
theorem dK1_alter_14 : decode cK1_alter 14 = .ok (.getfield 9, 3) := by decide +kernel
theorem dK1_alter_17 : decode cK1_alter 17 = .ok (.iload_n 3, 1) := by decide +kernel
theorem dK1_alter_18 : decode cK1_alter 18 = .ok (.iload_n 1, 1) := by decide +kernel
theorem dK1_alter_19 : decode cK1_alter 19 = .ok (.ifCond .eq 15, 3) := by decide +kernel
theorem dK1_alter_22 : decode cK1_alter 22 = .ok (.aload_n 0, 1) := by decide +kernel
theorem dK1_alter_23 : decode cK1_alter 23 = .ok (.getfield 9, 3) := by decide +kernel
theorem dK1_alter_26 : decode cK1_alter 26 = .ok (.iload_n 3, 1) := by decide +kernel
theorem dK1_alter_27 : decode cK1_alter 27 = .ok (.iaload, 1) := by decide +kernel
theorem dK1_alter_28 : decode cK1_alter 28 = .ok (.iload 4, 2) := by decide +kernel
theorem dK1_alter_30 : decode cK1_alter 30 = .ok (.ior, 1) := by decide +kernel
theorem dK1_alter_31 : decode cK1_alter 31 = .ok (.goto 14, 3) := by decide +kernel
theorem dK1_alter_34 : decode cK1_alter 34 = .ok (.aload_n 0, 1) := by decide +kernel
theorem dK1_alter_35 : decode cK1_alter 35 = .ok (.getfield 9, 3) := by decide +kernel
theorem dK1_alter_38 : decode cK1_alter 38 = .ok (.iload_n 3, 1) := by decide +kernel
theorem dK1_alter_39 : decode cK1_alter 39 = .ok (.iaload, 1) := by decide +kernel
theorem dK1_alter_40 : decode cK1_alter 40 = .ok (.iload 4, 2) := by decide +kernel
theorem dK1_alter_42 : decode cK1_alter 42 = .ok (.iconst (-1), 1) := by decide +kernel
theorem dK1_alter_43 : decode cK1_alter 43 = .ok (.ixor, 1) := by decide +kernel
theorem dK1_alter_44 : decode cK1_alter 44 = .ok (.iand, 1) := by decide +kernel
theorem dK1_alter_45 : decode cK1_alter 45 = .ok (.iastore, 1) := by decide +kernel
theorem dK1_alter_46 : decode cK1_alter 46 = .ok (.iload_n 3, 1) := by decide +kernel
theorem dK1_alter_47 : decode cK1_alter 47 = .ok (.bipush 6, 2) := by decide +kernel
theorem dK1_alter_49 : decode cK1_alter 49 = .ok (.irem, 1) := by decide +kernel
theorem dK1_alter_50 : decode cK1_alter 50 = .ok (.istore 5, 2) := by decide +kernel
theorem dK1_alter_52 : decode cK1_alter 52 = .ok (.iload 5, 2) := by decide +kernel
theorem dK1_alter_54 : decode cK1_alter 54 = .ok (.ifCond .eq 9, 3) := by decide +kernel
theorem dK1_alter_57 : decode cK1_alter 57 = .ok (.iload 5, 2) := by decide +kernel
theorem dK1_alter_59 : decode cK1_alter 59 = .ok (.iconst 1, 1) := by decide +kernel
theorem dK1_alter_60 : decode cK1_alter 60 = .ok (.if_icmp .ne 8, 3) := by decide +kernel
theorem dK1_alter_63 : decode cK1_alter 63 = .ok (.aload_n 0, 1) := by decide +kernel
theorem dK1_alter_64 : decode cK1_alter 64 = .ok (.iconst 0, 1) := by decide +kernel
theorem dK1_alter_65 : decode cK1_alter 65 = .ok (.putfield 21, 3) := by decide +kernel
theorem dK1_alter_68 : decode cK1_alter 68 = .ok (.return_, 1) := by decide +kernel
theorem dK1_sortIntoClasses_0 : decode cK1_sortIntoClasses 0 = .ok (.aload_n 0, 1) := by decide +kernel
theorem dK1_sortIntoClasses_1 : decode cK1_sortIntoClasses 1 = .ok (.getfield 21, 3) := by decide +kernel
theorem dK1_sortIntoClasses_4 : decode cK1_sortIntoClasses 4 = .ok (.ifCond .eq 4, 3) := by decide +kernel
theorem dK1_sortIntoClasses_7 : decode cK1_sortIntoClasses 7 = .ok (.return_, 1) := by decide +kernel
theorem dK1_sortIntoClasses_8 : decode cK1_sortIntoClasses 8 = .ok (.aload_n 0, 1) := by decide +kernel
theorem dK1_sortIntoClasses_9 : decode cK1_sortIntoClasses 9 = .ok (.getfield 15, 3) := by decide +kernel
theorem dK1_sortIntoClasses_12 : decode cK1_sortIntoClasses 12 = .ok (.iconst 0, 1) := by decide +kernel
theorem dK1_sortIntoClasses_13 : decode cK1_sortIntoClasses 13 = .ok (.invokestatic 39, 3) := by decide +kernel
theorem dK1_sortIntoClasses_16 : decode cK1_sortIntoClasses 16 = .ok (.iconst 0, 1) := by decide +kernel
theorem dK1_sortIntoClasses_17 : decode cK1_sortIntoClasses 17 = .ok (.istore_n 1, 1) := by decide +kernel
theorem dK1_sortIntoClasses_18 : decode cK1_sortIntoClasses 18 = .ok (.iload_n 1, 1) := by decide +kernel
theorem dK1_sortIntoClasses_19 : decode cK1_sortIntoClasses 19 = .ok (.bipush 12, 2) := by decide +kernel
theorem dK1_sortIntoClasses_21 : decode cK1_sortIntoClasses 21 = .ok (.if_icmp .ge 53, 3) := by decide +kernel
theorem dK1_sortIntoClasses_24 : decode cK1_sortIntoClasses 24 = .ok (.aload_n 0, 1) := by decide +kernel
theorem dK1_sortIntoClasses_25 : decode cK1_sortIntoClasses 25 = .ok (.iload_n 1, 1) := by decide +kernel
theorem dK1_sortIntoClasses_26 : decode cK1_sortIntoClasses 26 = .ok (.invokevirtual 45, 3) := by decide +kernel
theorem dK1_sortIntoClasses_29 : decode cK1_sortIntoClasses 29 = .ok (.istore_n 2, 1) := by decide +kernel
theorem dK1_sortIntoClasses_30 : decode cK1_sortIntoClasses 30 = .ok (.iconst 0, 1) := by decide +kernel
theorem dK1_sortIntoClasses_31 : decode cK1_sortIntoClasses 31 = .ok (.istore_n 3, 1) := by decide +kernel
theorem dK1_sortIntoClasses_32 : decode cK1_sortIntoClasses 32 = .ok (.iload_n 3, 1) := by decide +kernel
theorem dK1_sortIntoClasses_33 : decode cK1_sortIntoClasses 33 = .ok (.bipush 12, 2) := by decide +kernel
theorem dK1_sortIntoClasses_35 : decode cK1_sortIntoClasses 35 = .ok (.if_icmp .ge 33, 3) := by decide +kernel
theorem dK1_sortIntoClasses_38 : decode cK1_sortIntoClasses 38 = .ok (.iload_n 2, 1) := by decide +kernel
theorem dK1_sortIntoClasses_39 : decode cK1_sortIntoClasses 39 = .ok (.ifCond .eq 29, 3) := by decide +kernel
theorem dK1_sortIntoClasses_42 : decode cK1_sortIntoClasses 42 = .ok (.iload_n 2, 1) := by decide +kernel
theorem dK1_sortIntoClasses_43 : decode cK1_sortIntoClasses 43 = .ok (.iload_n 3, 1) := by decide +kernel
theorem dK1_sortIntoClasses_44 : decode cK1_sortIntoClasses 44 = .ok (.invokestatic 29, 3) := by decide +kernel
theorem dK1_sortIntoClasses_47 : decode cK1_sortIntoClasses 47 = .ok (.ifCond .eq 15, 3) := by decide +kernel
theorem dK1_sortIntoClasses_50 : decode cK1_sortIntoClasses 50 = .ok (.aload_n 0, 1) := by decide +kernel
theorem dK1_sortIntoClasses_51 : decode cK1_sortIntoClasses 51 = .ok (.getfield 15, 3) := by decide +kernel
theorem dK1_sortIntoClasses_54 : decode cK1_sortIntoClasses 54 = .ok (.iload_n 3, 1) := by decide +kernel
theorem dK1_sortIntoClasses_55 : decode cK1_sortIntoClasses 55 = .ok (.dup2, 1) := by decide +kernel
theorem dK1_sortIntoClasses_56 : decode cK1_sortIntoClasses 56 = .ok (.iaload, 1) := by decide +kernel
theorem dK1_sortIntoClasses_57 : decode cK1_sortIntoClasses 57 = .ok (.iconst 1, 1) := by decide +kernel
theorem dK1_sortIntoClasses_58 : decode cK1_sortIntoClasses 58 = .ok (.iload_n 1, 1) := by decide +kernel
theorem dK1_sortIntoClasses_59 : decode cK1_sortIntoClasses 59 = .ok (.ishl, 1) := by decide +kernel
theorem dK1_sortIntoClasses_60 : decode cK1_sortIntoClasses 60 = .ok (.ior, 1) := by decide +kernel
theorem dK1_sortIntoClasses_61 : decode cK1_sortIntoClasses 61 = .ok (.iastore, 1) := by decide +kernel
theorem dK1_sortIntoClasses_62 : decode cK1_sortIntoClasses 62 = .ok (.iinc 3 1, 3) := by decide +kernel
theorem dK1_sortIntoClasses_65 : decode cK1_sortIntoClasses 65 = .ok (.goto (-33), 3) := by decide +kernel
theorem dK1_sortIntoClasses_68 : decode cK1_sortIntoClasses 68 = .ok (.iinc 1 1, 3) := by decide +kernel
theorem dK1_sortIntoClasses_71 : decode cK1_sortIntoClasses 71 = .ok (.goto (-53), 3) := by decide +kernel
theorem dK1_sortIntoClasses_74 : decode cK1_sortIntoClasses 74 = .ok (.aload_n 0, 1) := by decide +kernel
theorem dK1_sortIntoClasses_75 : decode cK1_sortIntoClasses 75 = .ok (.iconst 1, 1) := by decide +kernel
theorem dK1_sortIntoClasses_76 : decode cK1_sortIntoClasses 76 = .ok (.putfield 21, 3) := by decide +kernel
theorem dK1_sortIntoClasses_79 : decode cK1_sortIntoClasses 79 = .ok (.return_, 1) := by decide +kernel
theorem dJ6_fill_aIIV_0 : decode cJ6_fill_aIIV 0 = .ok (.iconst 0, 1) := by decide +kernel
theorem dJ6_fill_aIIV_1 : decode cJ6_fill_aIIV 1 = .ok (.istore_n 2, 1) := by decide +kernel
theorem dJ6_fill_aIIV_2 : decode cJ6_fill_aIIV 2 = .ok (.aload_n 0, 1) := by decide +kernel
theorem dJ6_fill_aIIV_3 : decode cJ6_fill_aIIV 3 = .ok (.arraylength, 1) := by decide +kernel
theorem dJ6_fill_aIIV_4 : decode cJ6_fill_aIIV 4 = .ok (.istore_n 3, 1) := by decide +kernel
theorem dJ6_fill_aIIV_5 : decode cJ6_fill_aIIV 5 = .ok (.iload_n 2, 1) := by decide +kernel
theorem dJ6_fill_aIIV_6 : decode cJ6_fill_aIIV 6 = .ok (.iload_n 3, 1) := by decide +kernel
theorem dJ6_fill_aIIV_7 : decode cJ6_fill_aIIV 7 = .ok (.if_icmp .ge 13, 3) := by decide +kernel
theorem dJ6_fill_aIIV_10 : decode cJ6_fill_aIIV 10 = .ok (.aload_n 0, 1) := by decide +kernel
theorem dJ6_fill_aIIV_11 : decode cJ6_fill_aIIV 11 = .ok (.iload_n 2, 1) := by decide +kernel
theorem dJ6_fill_aIIV_12 : decode cJ6_fill_aIIV 12 = .ok (.iload_n 1, 1) := by decide +kernel
theorem dJ6_fill_aIIV_13 : decode cJ6_fill_aIIV 13 = .ok (.iastore, 1) := by decide +kernel
theorem dJ6_fill_aIIV_14 : decode cJ6_fill_aIIV 14 = .ok (.iinc 2 1, 3) := by decide +kernel
theorem dJ6_fill_aIIV_17 : decode cJ6_fill_aIIV 17 = .ok (.goto (-12), 3) := by decide +kernel
theorem dJ6_fill_aIIV_20 : decode cJ6_fill_aIIV 20 = .ok (.return_, 1) := by decide +kernel
theorem dK1_classesOf_0 : decode cK1_classesOf 0 = .ok (.aload_n 0, 1) := by decide +kernel
theorem dK1_classesOf_1 : decode cK1_classesOf 1 = .ok (.iload_n 1, 1) := by decide +kernel
theorem dK1_classesOf_2 : decode cK1_classesOf 2 = .ok (.iconst 0, 1) := by decide +kernel
theorem dK1_classesOf_3 : decode cK1_classesOf 3 = .ok (.invokevirtual 25, 3) := by decide +kernel
theorem dK1_classesOf_6 : decode cK1_classesOf 6 = .ok (.istore_n 2, 1) := by decide +kernel
theorem dK1_classesOf_7 : decode cK1_classesOf 7 = .ok (.iconst 0, 1) := by decide +kernel
theorem dK1_classesOf_8 : decode cK1_classesOf 8 = .ok (.istore_n 3, 1) := by decide +kernel
theorem dK1_classesOf_9 : decode cK1_classesOf 9 = .ok (.iconst 0, 1) := by decide +kernel
theorem dK1_classesOf_10 : decode cK1_classesOf 10 = .ok (.istore 4, 2) := by decide +kernel
theorem dK1_classesOf_12 : decode cK1_classesOf 12 = .ok (.iload 4, 2) := by decide +kernel
theorem dK1_classesOf_14 : decode cK1_classesOf 14 = .ok (.bipush 12, 2) := by decide +kernel
theorem dK1_classesOf_16 : decode cK1_classesOf 16 = .ok (.if_icmp .ge 41, 3) := by decide +kernel
theorem dK1_classesOf_19 : decode cK1_classesOf 19 = .ok (.iload_n 3, 1) := by decide +kernel
theorem dK1_classesOf_20 : decode cK1_classesOf 20 = .ok (.iload_n 2, 1) := by decide +kernel
theorem dK1_classesOf_21 : decode cK1_classesOf 21 = .ok (.if_icmp .eq 36, 3) := by decide +kernel
theorem dK1_classesOf_24 : decode cK1_classesOf 24 = .ok (.iload_n 2, 1) := by decide +kernel
theorem dK1_classesOf_25 : decode cK1_classesOf 25 = .ok (.iload_n 3, 1) := by decide +kernel
theorem dK1_classesOf_26 : decode cK1_classesOf 26 = .ok (.iconst (-1), 1) := by decide +kernel
theorem dK1_classesOf_27 : decode cK1_classesOf 27 = .ok (.ixor, 1) := by decide +kernel
theorem dK1_classesOf_28 : decode cK1_classesOf 28 = .ok (.iand, 1) := by decide +kernel
theorem dK1_classesOf_29 : decode cK1_classesOf 29 = .ok (.invokestatic 52, 3) := by decide +kernel
theorem dK1_classesOf_32 : decode cK1_classesOf 32 = .ok (.istore 5, 2) := by decide +kernel
theorem dK1_classesOf_34 : decode cK1_classesOf 34 = .ok (.iload_n 3, 1) := by decide +kernel
theorem dK1_classesOf_35 : decode cK1_classesOf 35 = .ok (.iconst 1, 1) := by decide +kernel
theorem dK1_classesOf_36 : decode cK1_classesOf 36 = .ok (.iload 5, 2) := by decide +kernel
theorem dK1_classesOf_38 : decode cK1_classesOf 38 = .ok (.ishl, 1) := by decide +kernel
theorem dK1_classesOf_39 : decode cK1_classesOf 39 = .ok (.ior, 1) := by decide +kernel
theorem dK1_classesOf_40 : decode cK1_classesOf 40 = .ok (.istore_n 3, 1) := by decide +kernel
theorem dK1_classesOf_41 : decode cK1_classesOf 41 = .ok (.iload_n 2, 1) := by decide +kernel
theorem dK1_classesOf_42 : decode cK1_classesOf 42 = .ok (.aload_n 0, 1) := by decide +kernel
theorem dK1_classesOf_43 : decode cK1_classesOf 43 = .ok (.iload 5, 2) := by decide +kernel
theorem dK1_classesOf_45 : decode cK1_classesOf 45 = .ok (.iconst 1, 1) := by decide +kernel
theorem dK1_classesOf_46 : decode cK1_classesOf 46 = .ok (.invokevirtual 25, 3) := by decide +kernel
theorem dK1_classesOf_49 : decode cK1_classesOf 49 = .ok (.ior, 1) := by decide +kernel
theorem dK1_classesOf_50 : decode cK1_classesOf 50 = .ok (.istore_n 2, 1) := by decide +kernel
theorem dK1_classesOf_51 : decode cK1_classesOf 51 = .ok (.iinc 4 1, 3) := by decide +kernel
theorem dK1_classesOf_54 : decode cK1_classesOf 54 = .ok (.goto (-42), 3) := by decide +kernel
theorem dK1_classesOf_57 : decode cK1_classesOf 57 = .ok (.iload_n 2, 1) := by decide +kernel
theorem dK1_classesOf_58 : decode cK1_classesOf 58 = .ok (.ireturn, 1) := by decide +kernel
theorem dK1_least_0 : decode cK1_least 0 = .ok (.iload_n 0, 1) := by decide +kernel
theorem dK1_least_1 : decode cK1_least 1 = .ok (.invokestatic 62, 3) := by decide +kernel
theorem dK1_least_4 : decode cK1_least 4 = .ok (.bipush 11, 2) := by decide +kernel
theorem dK1_least_6 : decode cK1_least 6 = .ok (.invokestatic 67, 3) := by decide +kernel
theorem dK1_least_9 : decode cK1_least 9 = .ok (.ireturn, 1) := by decide +kernel
theorem dJ2_numberOfTrailingZeros_0 : decode cJ2_numberOfTrailingZeros 0 = .ok (.iload_n 0, 1) := by decide +kernel
theorem dJ2_numberOfTrailingZeros_1 : decode cJ2_numberOfTrailingZeros 1 = .ok (.iconst (-1), 1) := by decide +kernel
theorem dJ2_numberOfTrailingZeros_2 : decode cJ2_numberOfTrailingZeros 2 = .ok (.ixor, 1) := by decide +kernel
theorem dJ2_numberOfTrailingZeros_3 : decode cJ2_numberOfTrailingZeros 3 = .ok (.iload_n 0, 1) := by decide +kernel
theorem dJ2_numberOfTrailingZeros_4 : decode cJ2_numberOfTrailingZeros 4 = .ok (.iconst 1, 1) := by decide +kernel
theorem dJ2_numberOfTrailingZeros_5 : decode cJ2_numberOfTrailingZeros 5 = .ok (.isub, 1) := by decide +kernel
theorem dJ2_numberOfTrailingZeros_6 : decode cJ2_numberOfTrailingZeros 6 = .ok (.iand, 1) := by decide +kernel
theorem dJ2_numberOfTrailingZeros_7 : decode cJ2_numberOfTrailingZeros 7 = .ok (.istore_n 0, 1) := by decide +kernel
theorem dJ2_numberOfTrailingZeros_8 : decode cJ2_numberOfTrailingZeros 8 = .ok (.iload_n 0, 1) := by decide +kernel
theorem dJ2_numberOfTrailingZeros_9 : decode cJ2_numberOfTrailingZeros 9 = .ok (.ifCond .gt 8, 3) := by decide +kernel
theorem dJ2_numberOfTrailingZeros_12 : decode cJ2_numberOfTrailingZeros 12 = .ok (.iload_n 0, 1) := by decide +kernel
theorem dJ2_numberOfTrailingZeros_13 : decode cJ2_numberOfTrailingZeros 13 = .ok (.bipush 32, 2) := by decide +kernel
theorem dJ2_numberOfTrailingZeros_15 : decode cJ2_numberOfTrailingZeros 15 = .ok (.iand, 1) := by decide +kernel
theorem dJ2_numberOfTrailingZeros_16 : decode cJ2_numberOfTrailingZeros 16 = .ok (.ireturn, 1) := by decide +kernel
theorem dJ2_numberOfTrailingZeros_17 : decode cJ2_numberOfTrailingZeros 17 = .ok (.iconst 1, 1) := by decide +kernel
theorem dJ2_numberOfTrailingZeros_18 : decode cJ2_numberOfTrailingZeros 18 = .ok (.istore_n 1, 1) := by decide +kernel
theorem dJ2_numberOfTrailingZeros_19 : decode cJ2_numberOfTrailingZeros 19 = .ok (.iload_n 0, 1) := by decide +kernel
theorem dJ2_numberOfTrailingZeros_20 : decode cJ2_numberOfTrailingZeros 20 = .ok (.ldc_w 264, 3) := by decide +kernel
theorem dJ2_numberOfTrailingZeros_23 : decode cJ2_numberOfTrailingZeros 23 = .ok (.if_icmp .le 11, 3) := by decide +kernel
theorem dJ2_numberOfTrailingZeros_26 : decode cJ2_numberOfTrailingZeros 26 = .ok (.iinc 1 16, 3) := by decide +kernel
theorem dJ2_numberOfTrailingZeros_29 : decode cJ2_numberOfTrailingZeros 29 = .ok (.iload_n 0, 1) := by decide +kernel
theorem dJ2_numberOfTrailingZeros_30 : decode cJ2_numberOfTrailingZeros 30 = .ok (.bipush 16, 2) := by decide +kernel
theorem dJ2_numberOfTrailingZeros_32 : decode cJ2_numberOfTrailingZeros 32 = .ok (.iushr, 1) := by decide +kernel
theorem dJ2_numberOfTrailingZeros_33 : decode cJ2_numberOfTrailingZeros 33 = .ok (.istore_n 0, 1) := by decide +kernel
theorem dJ2_numberOfTrailingZeros_34 : decode cJ2_numberOfTrailingZeros 34 = .ok (.iload_n 0, 1) := by decide +kernel
theorem dJ2_numberOfTrailingZeros_35 : decode cJ2_numberOfTrailingZeros 35 = .ok (.sipush 256, 3) := by decide +kernel
theorem dJ2_numberOfTrailingZeros_38 : decode cJ2_numberOfTrailingZeros 38 = .ok (.if_icmp .le 11, 3) := by decide +kernel
theorem dJ2_numberOfTrailingZeros_41 : decode cJ2_numberOfTrailingZeros 41 = .ok (.iinc 1 8, 3) := by decide +kernel
theorem dJ2_numberOfTrailingZeros_44 : decode cJ2_numberOfTrailingZeros 44 = .ok (.iload_n 0, 1) := by decide +kernel
theorem dJ2_numberOfTrailingZeros_45 : decode cJ2_numberOfTrailingZeros 45 = .ok (.bipush 8, 2) := by decide +kernel
theorem dJ2_numberOfTrailingZeros_47 : decode cJ2_numberOfTrailingZeros 47 = .ok (.iushr, 1) := by decide +kernel
theorem dJ2_numberOfTrailingZeros_48 : decode cJ2_numberOfTrailingZeros 48 = .ok (.istore_n 0, 1) := by decide +kernel
theorem dJ2_numberOfTrailingZeros_49 : decode cJ2_numberOfTrailingZeros 49 = .ok (.iload_n 0, 1) := by decide +kernel
theorem dJ2_numberOfTrailingZeros_50 : decode cJ2_numberOfTrailingZeros 50 = .ok (.bipush 16, 2) := by decide +kernel
theorem dJ2_numberOfTrailingZeros_52 : decode cJ2_numberOfTrailingZeros 52 = .ok (.if_icmp .le 10, 3) := by decide +kernel
theorem dJ2_numberOfTrailingZeros_55 : decode cJ2_numberOfTrailingZeros 55 = .ok (.iinc 1 4, 3) := by decide +kernel
theorem dJ2_numberOfTrailingZeros_58 : decode cJ2_numberOfTrailingZeros 58 = .ok (.iload_n 0, 1) := by decide +kernel
theorem dJ2_numberOfTrailingZeros_59 : decode cJ2_numberOfTrailingZeros 59 = .ok (.iconst 4, 1) := by decide +kernel
theorem dJ2_numberOfTrailingZeros_60 : decode cJ2_numberOfTrailingZeros 60 = .ok (.iushr, 1) := by decide +kernel
theorem dJ2_numberOfTrailingZeros_61 : decode cJ2_numberOfTrailingZeros 61 = .ok (.istore_n 0, 1) := by decide +kernel
theorem dJ2_numberOfTrailingZeros_62 : decode cJ2_numberOfTrailingZeros 62 = .ok (.iload_n 0, 1) := by decide +kernel
theorem dJ2_numberOfTrailingZeros_63 : decode cJ2_numberOfTrailingZeros 63 = .ok (.iconst 4, 1) := by decide +kernel
theorem dJ2_numberOfTrailingZeros_64 : decode cJ2_numberOfTrailingZeros 64 = .ok (.if_icmp .le 10, 3) := by decide +kernel
theorem dJ2_numberOfTrailingZeros_67 : decode cJ2_numberOfTrailingZeros 67 = .ok (.iinc 1 2, 3) := by decide +kernel
theorem dJ2_numberOfTrailingZeros_70 : decode cJ2_numberOfTrailingZeros 70 = .ok (.iload_n 0, 1) := by decide +kernel
theorem dJ2_numberOfTrailingZeros_71 : decode cJ2_numberOfTrailingZeros 71 = .ok (.iconst 2, 1) := by decide +kernel
theorem dJ2_numberOfTrailingZeros_72 : decode cJ2_numberOfTrailingZeros 72 = .ok (.iushr, 1) := by decide +kernel
theorem dJ2_numberOfTrailingZeros_73 : decode cJ2_numberOfTrailingZeros 73 = .ok (.istore_n 0, 1) := by decide +kernel
theorem dJ2_numberOfTrailingZeros_74 : decode cJ2_numberOfTrailingZeros 74 = .ok (.iload_n 1, 1) := by decide +kernel
theorem dJ2_numberOfTrailingZeros_75 : decode cJ2_numberOfTrailingZeros 75 = .ok (.iload_n 0, 1) := by decide +kernel
theorem dJ2_numberOfTrailingZeros_76 : decode cJ2_numberOfTrailingZeros 76 = .ok (.iconst 1, 1) := by decide +kernel
theorem dJ2_numberOfTrailingZeros_77 : decode cJ2_numberOfTrailingZeros 77 = .ok (.iushr, 1) := by decide +kernel
theorem dJ2_numberOfTrailingZeros_78 : decode cJ2_numberOfTrailingZeros 78 = .ok (.iadd, 1) := by decide +kernel
theorem dJ2_numberOfTrailingZeros_79 : decode cJ2_numberOfTrailingZeros 79 = .ok (.ireturn, 1) := by decide +kernel
theorem dJ9_min_0 : decode cJ9_min 0 = .ok (.iload_n 0, 1) := by decide +kernel
theorem dJ9_min_1 : decode cJ9_min 1 = .ok (.iload_n 1, 1) := by decide +kernel
theorem dJ9_min_2 : decode cJ9_min 2 = .ok (.if_icmp .gt 7, 3) := by decide +kernel
theorem dJ9_min_5 : decode cJ9_min 5 = .ok (.iload_n 0, 1) := by decide +kernel
theorem dJ9_min_6 : decode cJ9_min 6 = .ok (.goto 4, 3) := by decide +kernel
theorem dJ9_min_9 : decode cJ9_min 9 = .ok (.iload_n 1, 1) := by decide +kernel
theorem dJ9_min_10 : decode cJ9_min 10 = .ok (.ireturn, 1) := by decide +kernel
theorem dK0_drop_0 : decode cK0_drop 0 = .ok (.aload_n 0, 1) := by decide +kernel
theorem dK0_drop_1 : decode cK0_drop 1 = .ok (.iconst 0, 1) := by decide +kernel
theorem dK0_drop_2 : decode cK0_drop 2 = .ok (.iload_n 1, 1) := by decide +kernel
theorem dK0_drop_3 : decode cK0_drop 3 = .ok (.iload_n 2, 1) := by decide +kernel
theorem dK0_drop_4 : decode cK0_drop 4 = .ok (.iload_n 3, 1) := by decide +kernel
theorem dK0_drop_5 : decode cK0_drop 5 = .ok (.invokevirtual 61, 3) := by decide +kernel
theorem dK0_drop_8 : decode cK0_drop 8 = .ok (.ireturn, 1) := by decide +kernel
theorem dK0_rule_0 : decode cK0_rule 0 = .ok (.iload_n 2, 1) := by decide +kernel
theorem dK0_rule_1 : decode cK0_rule 1 = .ok (.invokestatic 65, 3) := by decide +kernel
theorem dK0_rule_4 : decode cK0_rule 4 = .ok (.ifCond .eq 19, 3) := by decide +kernel
theorem dK0_rule_7 : decode cK0_rule 7 = .ok (.iload_n 3, 1) := by decide +kernel
theorem dK0_rule_8 : decode cK0_rule 8 = .ok (.invokestatic 69, 3) := by decide +kernel
theorem dK0_rule_11 : decode cK0_rule 11 = .ok (.ifCond .eq 12, 3) := by decide +kernel
theorem dK0_rule_14 : decode cK0_rule 14 = .ok (.iload_n 1, 1) := by decide +kernel
theorem dK0_rule_15 : decode cK0_rule 15 = .ok (.iload 4, 2) := by decide +kernel
theorem dK0_rule_17 : decode cK0_rule 17 = .ok (.invokestatic 72, 3) := by decide +kernel
theorem dK0_rule_20 : decode cK0_rule 20 = .ok (.ifCond .ne 5, 3) := by decide +kernel
theorem dK0_rule_23 : decode cK0_rule 23 = .ok (.iconst (-1), 1) := by decide +kernel
theorem dK0_rule_24 : decode cK0_rule 24 = .ok (.ireturn, 1) := by decide +kernel
theorem dK0_rule_25 : decode cK0_rule 25 = .ok (.aload_n 0, 1) := by decide +kernel
theorem dK0_rule_26 : decode cK0_rule 26 = .ok (.getfield 22, 3) := by decide +kernel
theorem dK0_rule_29 : decode cK0_rule 29 = .ok (.iload_n 1, 1) := by decide +kernel
theorem dK0_rule_30 : decode cK0_rule 30 = .ok (.iload_n 2, 1) := by decide +kernel
theorem dK0_rule_31 : decode cK0_rule 31 = .ok (.iload_n 3, 1) := by decide +kernel
theorem dK0_rule_32 : decode cK0_rule 32 = .ok (.iload 4, 2) := by decide +kernel
theorem dK0_rule_34 : decode cK0_rule 34 = .ok (.invokevirtual 76, 3) := by decide +kernel
theorem dK0_rule_37 : decode cK0_rule 37 = .ok (.ireturn, 1) := by decide +kernel
theorem dK0_fitsKind_0 : decode cK0_fitsKind 0 = .ok (.iload_n 0, 1) := by decide +kernel
theorem dK0_fitsKind_1 : decode cK0_fitsKind 1 = .ok (.tableswitch 65 0 5 #[39, 39, 55, 55, 60, 60], 39) := by decide +kernel
theorem dK0_fitsKind_40 : decode cK0_fitsKind 40 = .ok (.iload_n 1, 1) := by decide +kernel
theorem dK0_fitsKind_41 : decode cK0_fitsKind 41 = .ok (.ifCond .lt 13, 3) := by decide +kernel
theorem dK0_fitsKind_44 : decode cK0_fitsKind 44 = .ok (.iload_n 1, 1) := by decide +kernel
theorem dK0_fitsKind_45 : decode cK0_fitsKind 45 = .ok (.bipush 12, 2) := by decide +kernel
theorem dK0_fitsKind_47 : decode cK0_fitsKind 47 = .ok (.if_icmp .gt 7, 3) := by decide +kernel
theorem dK0_fitsKind_50 : decode cK0_fitsKind 50 = .ok (.iconst 1, 1) := by decide +kernel
theorem dK0_fitsKind_51 : decode cK0_fitsKind 51 = .ok (.goto 4, 3) := by decide +kernel
theorem dK0_fitsKind_54 : decode cK0_fitsKind 54 = .ok (.iconst 0, 1) := by decide +kernel
theorem dK0_fitsKind_55 : decode cK0_fitsKind 55 = .ok (.ireturn, 1) := by decide +kernel
theorem dK0_fitsKind_56 : decode cK0_fitsKind 56 = .ok (.iload_n 1, 1) := by decide +kernel
theorem dK0_fitsKind_57 : decode cK0_fitsKind 57 = .ok (.invokestatic 65, 3) := by decide +kernel
theorem dK0_fitsKind_60 : decode cK0_fitsKind 60 = .ok (.ireturn, 1) := by decide +kernel
theorem dK0_fitsKind_61 : decode cK0_fitsKind 61 = .ok (.iload_n 1, 1) := by decide +kernel
theorem dK0_fitsKind_62 : decode cK0_fitsKind 62 = .ok (.invokestatic 69, 3) := by decide +kernel
theorem dK0_fitsKind_65 : decode cK0_fitsKind 65 = .ok (.ireturn, 1) := by decide +kernel
theorem dK0_fitsKind_66 : decode cK0_fitsKind 66 = .ok (.iconst 0, 1) := by decide +kernel
theorem dK0_fitsKind_67 : decode cK0_fitsKind 67 = .ok (.ireturn, 1) := by decide +kernel
theorem dK2_add_0 : decode cK2_add 0 = .ok (.aload_n 0, 1) := by decide +kernel
theorem dK2_add_1 : decode cK2_add 1 = .ok (.getfield 24, 3) := by decide +kernel
theorem dK2_add_4 : decode cK2_add 4 = .ok (.bipush 10, 2) := by decide +kernel
theorem dK2_add_6 : decode cK2_add 6 = .ok (.if_icmp .lt 6, 3) := by decide +kernel
theorem dK2_add_9 : decode cK2_add 9 = .ok (.bipush (-3), 2) := by decide +kernel
theorem dK2_add_11 : decode cK2_add 11 = .ok (.ireturn, 1) := by decide +kernel
theorem dK2_add_12 : decode cK2_add 12 = .ok (.aload_n 0, 1) := by decide +kernel
theorem dK2_add_13 : decode cK2_add 13 = .ok (.getfield 9, 3) := by decide +kernel
theorem dK2_add_16 : decode cK2_add 16 = .ok (.aload_n 0, 1) := by decide +kernel
theorem dK2_add_17 : decode cK2_add 17 = .ok (.getfield 24, 3) := by decide +kernel
theorem dK2_add_20 : decode cK2_add 20 = .ok (.iload_n 1, 1) := by decide +kernel
theorem dK2_add_21 : decode cK2_add 21 = .ok (.iastore, 1) := by decide +kernel
theorem dK2_add_22 : decode cK2_add 22 = .ok (.aload_n 0, 1) := by decide +kernel
theorem dK2_add_23 : decode cK2_add 23 = .ok (.getfield 15, 3) := by decide +kernel
theorem dK2_add_26 : decode cK2_add 26 = .ok (.aload_n 0, 1) := by decide +kernel
theorem dK2_add_27 : decode cK2_add 27 = .ok (.getfield 24, 3) := by decide +kernel
theorem dK2_add_30 : decode cK2_add 30 = .ok (.iload_n 2, 1) := by decide +kernel
theorem dK2_add_31 : decode cK2_add 31 = .ok (.iastore, 1) := by decide +kernel
theorem dK2_add_32 : decode cK2_add 32 = .ok (.aload_n 0, 1) := by decide +kernel
theorem dK2_add_33 : decode cK2_add 33 = .ok (.getfield 18, 3) := by decide +kernel
theorem dK2_add_36 : decode cK2_add 36 = .ok (.aload_n 0, 1) := by decide +kernel
theorem dK2_add_37 : decode cK2_add 37 = .ok (.getfield 24, 3) := by decide +kernel
theorem dK2_add_40 : decode cK2_add 40 = .ok (.iload_n 3, 1) := by decide +kernel
theorem dK2_add_41 : decode cK2_add 41 = .ok (.iastore, 1) := by decide +kernel
theorem dK2_add_42 : decode cK2_add 42 = .ok (.aload_n 0, 1) := by decide +kernel
theorem dK2_add_43 : decode cK2_add 43 = .ok (.getfield 21, 3) := by decide +kernel
theorem dK2_add_46 : decode cK2_add 46 = .ok (.aload_n 0, 1) := by decide +kernel
theorem dK2_add_47 : decode cK2_add 47 = .ok (.getfield 24, 3) := by decide +kernel
theorem dK2_add_50 : decode cK2_add 50 = .ok (.iload 4, 2) := by decide +kernel
theorem dK2_add_52 : decode cK2_add 52 = .ok (.iastore, 1) := by decide +kernel
theorem dK2_add_53 : decode cK2_add 53 = .ok (.aload_n 0, 1) := by decide +kernel
theorem dK2_add_54 : decode cK2_add 54 = .ok (.dup, 1) := by decide +kernel
theorem dK2_add_55 : decode cK2_add 55 = .ok (.getfield 24, 3) := by decide +kernel
theorem dK2_add_58 : decode cK2_add 58 = .ok (.iconst 1, 1) := by decide +kernel
theorem dK2_add_59 : decode cK2_add 59 = .ok (.iadd, 1) := by decide +kernel
theorem dK2_add_60 : decode cK2_add 60 = .ok (.putfield 24, 3) := by decide +kernel
theorem dK2_add_63 : decode cK2_add 63 = .ok (.aload_n 0, 1) := by decide +kernel
theorem dK2_add_64 : decode cK2_add 64 = .ok (.getfield 24, 3) := by decide +kernel
theorem dK2_add_67 : decode cK2_add 67 = .ok (.iconst 1, 1) := by decide +kernel
theorem dK2_add_68 : decode cK2_add 68 = .ok (.isub, 1) := by decide +kernel
theorem dK2_add_69 : decode cK2_add 69 = .ok (.ireturn, 1) := by decide +kernel
theorem dK0_results_0 : decode cK0_results 0 = .ok (.iconst 0, 1) := by decide +kernel
theorem dK0_results_1 : decode cK0_results 1 = .ok (.istore_n 1, 1) := by decide +kernel
theorem dK0_results_2 : decode cK0_results 2 = .ok (.iconst 0, 1) := by decide +kernel
theorem dK0_results_3 : decode cK0_results 3 = .ok (.istore_n 2, 1) := by decide +kernel
theorem dK0_results_4 : decode cK0_results 4 = .ok (.iload_n 2, 1) := by decide +kernel
theorem dK0_results_5 : decode cK0_results 5 = .ok (.aload_n 0, 1) := by decide +kernel
theorem dK0_results_6 : decode cK0_results 6 = .ok (.getfield 22, 3) := by decide +kernel
theorem dK0_results_9 : decode cK0_results 9 = .ok (.getfield 80, 3) := by decide +kernel
theorem dK0_results_12 : decode cK0_results 12 = .ok (.if_icmp .ge 27, 3) := by decide +kernel
theorem dK0_results_15 : decode cK0_results 15 = .ok (.iload_n 1, 1) := by decide +kernel
theorem dK0_results_16 : decode cK0_results 16 = .ok (.aload_n 0, 1) := by decide +kernel
theorem dK0_results_17 : decode cK0_results 17 = .ok (.getfield 22, 3) := by decide +kernel
theorem dK0_results_20 : decode cK0_results 20 = .ok (.aload_n 0, 1) := by decide +kernel
theorem dK0_results_21 : decode cK0_results 21 = .ok (.getfield 12, 3) := by decide +kernel
theorem dK0_results_24 : decode cK0_results 24 = .ok (.iload_n 2, 1) := by decide +kernel
theorem dK0_results_25 : decode cK0_results 25 = .ok (.invokevirtual 83, 3) := by decide +kernel
theorem dK0_results_28 : decode cK0_results 28 = .ok (.invokestatic 87, 3) := by decide +kernel
theorem dK0_results_31 : decode cK0_results 31 = .ok (.iadd, 1) := by decide +kernel
theorem dK0_results_32 : decode cK0_results 32 = .ok (.istore_n 1, 1) := by decide +kernel
theorem dK0_results_33 : decode cK0_results 33 = .ok (.iinc 2 1, 3) := by decide +kernel
theorem dK0_results_36 : decode cK0_results 36 = .ok (.goto (-32), 3) := by decide +kernel
theorem dK0_results_39 : decode cK0_results 39 = .ok (.iload_n 1, 1) := by decide +kernel
theorem dK0_results_40 : decode cK0_results 40 = .ok (.ireturn, 1) := by decide +kernel
theorem dK2_failing_0 : decode cK2_failing 0 = .ok (.aload_n 1, 1) := by decide +kernel
theorem dK2_failing_1 : decode cK2_failing 1 = .ok (.aload_n 0, 1) := by decide +kernel
theorem dK2_failing_2 : decode cK2_failing 2 = .ok (.getfield 15, 3) := by decide +kernel
theorem dK2_failing_5 : decode cK2_failing 5 = .ok (.iload_n 2, 1) := by decide +kernel
theorem dK2_failing_6 : decode cK2_failing 6 = .ok (.iaload, 1) := by decide +kernel
theorem dK2_failing_7 : decode cK2_failing 7 = .ok (.invokevirtual 38, 3) := by decide +kernel
theorem dK2_failing_10 : decode cK2_failing 10 = .ok (.istore_n 3, 1) := by decide +kernel
theorem dK2_failing_11 : decode cK2_failing 11 = .ok (.iconst 0, 1) := by decide +kernel
theorem dK2_failing_12 : decode cK2_failing 12 = .ok (.istore 4, 2) := by decide +kernel
theorem dK2_failing_14 : decode cK2_failing 14 = .ok (.iconst 0, 1) := by decide +kernel
theorem dK2_failing_15 : decode cK2_failing 15 = .ok (.istore 5, 2) := by decide +kernel
theorem dK2_failing_17 : decode cK2_failing 17 = .ok (.iload 5, 2) := by decide +kernel
theorem dK2_failing_19 : decode cK2_failing 19 = .ok (.bipush 12, 2) := by decide +kernel
theorem dK2_failing_21 : decode cK2_failing 21 = .ok (.if_icmp .ge 42, 3) := by decide +kernel
theorem dK2_failing_24 : decode cK2_failing 24 = .ok (.iload_n 3, 1) := by decide +kernel
theorem dK2_failing_25 : decode cK2_failing 25 = .ok (.ifCond .eq 38, 3) := by decide +kernel
theorem dK2_failing_28 : decode cK2_failing 28 = .ok (.iload_n 3, 1) := by decide +kernel
theorem dK2_failing_29 : decode cK2_failing 29 = .ok (.iload 5, 2) := by decide +kernel
theorem dK2_failing_31 : decode cK2_failing 31 = .ok (.invokestatic 42, 3) := by decide +kernel
theorem dK2_failing_34 : decode cK2_failing 34 = .ok (.ifCond .eq 23, 3) := by decide +kernel
theorem dK2_failing_37 : decode cK2_failing 37 = .ok (.aload_n 0, 1) := by decide +kernel
theorem dK2_failing_38 : decode cK2_failing 38 = .ok (.aload_n 1, 1) := by decide +kernel
theorem dK2_failing_39 : decode cK2_failing 39 = .ok (.iload_n 2, 1) := by decide +kernel
theorem dK2_failing_40 : decode cK2_failing 40 = .ok (.iload 5, 2) := by decide +kernel
theorem dK2_failing_42 : decode cK2_failing 42 = .ok (.invokevirtual 34, 3) := by decide +kernel
theorem dK2_failing_45 : decode cK2_failing 45 = .ok (.ifCond .ne 12, 3) := by decide +kernel
theorem dK2_failing_48 : decode cK2_failing 48 = .ok (.iload 4, 2) := by decide +kernel
theorem dK2_failing_50 : decode cK2_failing 50 = .ok (.iconst 1, 1) := by decide +kernel
theorem dK2_failing_51 : decode cK2_failing 51 = .ok (.iload 5, 2) := by decide +kernel
theorem dK2_failing_53 : decode cK2_failing 53 = .ok (.ishl, 1) := by decide +kernel
theorem dK2_failing_54 : decode cK2_failing 54 = .ok (.ior, 1) := by decide +kernel
theorem dK2_failing_55 : decode cK2_failing 55 = .ok (.istore 4, 2) := by decide +kernel
theorem dK2_failing_57 : decode cK2_failing 57 = .ok (.iinc 5 1, 3) := by decide +kernel
theorem dK2_failing_60 : decode cK2_failing 60 = .ok (.goto (-43), 3) := by decide +kernel
theorem dK2_failing_63 : decode cK2_failing 63 = .ok (.iload 4, 2) := by decide +kernel
theorem dK2_failing_65 : decode cK2_failing 65 = .ok (.ireturn, 1) := by decide +kernel
theorem dK1_membersOf_0 : decode cK1_membersOf 0 = .ok (.aload_n 0, 1) := by decide +kernel
theorem dK1_membersOf_1 : decode cK1_membersOf 1 = .ok (.getfield 15, 3) := by decide +kernel
theorem dK1_membersOf_4 : decode cK1_membersOf 4 = .ok (.iload_n 1, 1) := by decide +kernel
theorem dK1_membersOf_5 : decode cK1_membersOf 5 = .ok (.iaload, 1) := by decide +kernel
theorem dK1_membersOf_6 : decode cK1_membersOf 6 = .ok (.ireturn, 1) := by decide +kernel
theorem dK2_holds_0 : decode cK2_holds 0 = .ok (.aload_n 1, 1) := by decide +kernel
theorem dK2_holds_1 : decode cK2_holds 1 = .ok (.iload_n 3, 1) := by decide +kernel
theorem dK2_holds_2 : decode cK2_holds 2 = .ok (.aload_n 0, 1) := by decide +kernel
theorem dK2_holds_3 : decode cK2_holds 3 = .ok (.getfield 18, 3) := by decide +kernel
theorem dK2_holds_6 : decode cK2_holds 6 = .ok (.iload_n 2, 1) := by decide +kernel
theorem dK2_holds_7 : decode cK2_holds 7 = .ok (.iaload, 1) := by decide +kernel
theorem dK2_holds_8 : decode cK2_holds 8 = .ok (.invokevirtual 45, 3) := by decide +kernel
theorem dK2_holds_11 : decode cK2_holds 11 = .ok (.istore 4, 2) := by decide +kernel
theorem dK2_holds_13 : decode cK2_holds 13 = .ok (.aload_n 0, 1) := by decide +kernel
theorem dK2_holds_14 : decode cK2_holds 14 = .ok (.getfield 21, 3) := by decide +kernel
theorem dK2_holds_17 : decode cK2_holds 17 = .ok (.iload_n 2, 1) := by decide +kernel
theorem dK2_holds_18 : decode cK2_holds 18 = .ok (.iaload, 1) := by decide +kernel
theorem dK2_holds_19 : decode cK2_holds 19 = .ok (.istore 5, 2) := by decide +kernel
theorem dK2_holds_21 : decode cK2_holds 21 = .ok (.aload_n 0, 1) := by decide +kernel
theorem dK2_holds_22 : decode cK2_holds 22 = .ok (.getfield 9, 3) := by decide +kernel
theorem dK2_holds_25 : decode cK2_holds 25 = .ok (.iload_n 2, 1) := by decide +kernel
theorem dK2_holds_26 : decode cK2_holds 26 = .ok (.iaload, 1) := by decide +kernel
theorem dK2_holds_27 : decode cK2_holds 27 = .ok (.tableswitch 119 0 4 #[33, 49, 65, 85, 101], 33) := by decide +kernel
theorem dK2_holds_60 : decode cK2_holds 60 = .ok (.iload 4, 2) := by decide +kernel
theorem dK2_holds_62 : decode cK2_holds 62 = .ok (.invokestatic 49, 3) := by decide +kernel
theorem dK2_holds_65 : decode cK2_holds 65 = .ok (.iload 5, 2) := by decide +kernel
theorem dK2_holds_67 : decode cK2_holds 67 = .ok (.if_icmp .lt 7, 3) := by decide +kernel
theorem dK2_holds_70 : decode cK2_holds 70 = .ok (.iconst 1, 1) := by decide +kernel
theorem dK2_holds_71 : decode cK2_holds 71 = .ok (.goto 4, 3) := by decide +kernel
theorem dK2_holds_74 : decode cK2_holds 74 = .ok (.iconst 0, 1) := by decide +kernel
theorem dK2_holds_75 : decode cK2_holds 75 = .ok (.ireturn, 1) := by decide +kernel
theorem dK2_holds_76 : decode cK2_holds 76 = .ok (.iload 4, 2) := by decide +kernel
theorem dK2_holds_78 : decode cK2_holds 78 = .ok (.invokestatic 49, 3) := by decide +kernel
theorem dK2_holds_81 : decode cK2_holds 81 = .ok (.iload 5, 2) := by decide +kernel
theorem dK2_holds_83 : decode cK2_holds 83 = .ok (.if_icmp .gt 7, 3) := by decide +kernel
theorem dK2_holds_86 : decode cK2_holds 86 = .ok (.iconst 1, 1) := by decide +kernel
theorem dK2_holds_87 : decode cK2_holds 87 = .ok (.goto 4, 3) := by decide +kernel
theorem dK2_holds_90 : decode cK2_holds 90 = .ok (.iconst 0, 1) := by decide +kernel
theorem dK2_holds_91 : decode cK2_holds 91 = .ok (.ireturn, 1) := by decide +kernel
theorem dK2_holds_92 : decode cK2_holds 92 = .ok (.iload 4, 2) := by decide +kernel
theorem dK2_holds_94 : decode cK2_holds 94 = .ok (.aload_n 1, 1) := by decide +kernel
theorem dK2_holds_95 : decode cK2_holds 95 = .ok (.iload 5, 2) := by decide +kernel
theorem dK2_holds_97 : decode cK2_holds 97 = .ok (.invokevirtual 38, 3) := by decide +kernel
theorem dK2_holds_100 : decode cK2_holds 100 = .ok (.iconst (-1), 1) := by decide +kernel
theorem dK2_holds_101 : decode cK2_holds 101 = .ok (.ixor, 1) := by decide +kernel
theorem dK2_holds_102 : decode cK2_holds 102 = .ok (.iand, 1) := by decide +kernel
theorem dK2_holds_103 : decode cK2_holds 103 = .ok (.ifCond .ne 7, 3) := by decide +kernel
theorem dK2_holds_106 : decode cK2_holds 106 = .ok (.iconst 1, 1) := by decide +kernel
theorem dK2_holds_107 : decode cK2_holds 107 = .ok (.goto 4, 3) := by decide +kernel
theorem dK2_holds_110 : decode cK2_holds 110 = .ok (.iconst 0, 1) := by decide +kernel
theorem dK2_holds_111 : decode cK2_holds 111 = .ok (.ireturn, 1) := by decide +kernel
theorem dK2_holds_112 : decode cK2_holds 112 = .ok (.iload 4, 2) := by decide +kernel
theorem dK2_holds_114 : decode cK2_holds 114 = .ok (.iload 5, 2) := by decide +kernel
theorem dK2_holds_116 : decode cK2_holds 116 = .ok (.invokestatic 42, 3) := by decide +kernel
theorem dK2_holds_119 : decode cK2_holds 119 = .ok (.ifCond .ne 7, 3) := by decide +kernel
theorem dK2_holds_122 : decode cK2_holds 122 = .ok (.iconst 1, 1) := by decide +kernel
theorem dK2_holds_123 : decode cK2_holds 123 = .ok (.goto 4, 3) := by decide +kernel
theorem dK2_holds_126 : decode cK2_holds 126 = .ok (.iconst 0, 1) := by decide +kernel
theorem dK2_holds_127 : decode cK2_holds 127 = .ok (.ireturn, 1) := by decide +kernel
theorem dK2_holds_128 : decode cK2_holds 128 = .ok (.iload 4, 2) := by decide +kernel
theorem dK2_holds_130 : decode cK2_holds 130 = .ok (.aload_n 1, 1) := by decide +kernel
theorem dK2_holds_131 : decode cK2_holds 131 = .ok (.iload_n 3, 1) := by decide +kernel
theorem dK2_holds_132 : decode cK2_holds 132 = .ok (.iload 5, 2) := by decide +kernel
theorem dK2_holds_134 : decode cK2_holds 134 = .ok (.invokevirtual 45, 3) := by decide +kernel
theorem dK2_holds_137 : decode cK2_holds 137 = .ok (.if_icmp .ne 7, 3) := by decide +kernel
theorem dK2_holds_140 : decode cK2_holds 140 = .ok (.iconst 1, 1) := by decide +kernel
theorem dK2_holds_141 : decode cK2_holds 141 = .ok (.goto 4, 3) := by decide +kernel
theorem dK2_holds_144 : decode cK2_holds 144 = .ok (.iconst 0, 1) := by decide +kernel
theorem dK2_holds_145 : decode cK2_holds 145 = .ok (.ireturn, 1) := by decide +kernel
theorem dK2_holds_146 : decode cK2_holds 146 = .ok (.iload 4, 2) := by decide +kernel
theorem dK2_holds_148 : decode cK2_holds 148 = .ok (.aload_n 1, 1) := by decide +kernel
theorem dK2_holds_149 : decode cK2_holds 149 = .ok (.iload_n 3, 1) := by decide +kernel
theorem dK2_holds_150 : decode cK2_holds 150 = .ok (.iload 5, 2) := by decide +kernel
theorem dK2_holds_152 : decode cK2_holds 152 = .ok (.invokevirtual 45, 3) := by decide +kernel
theorem dK2_holds_155 : decode cK2_holds 155 = .ok (.iand, 1) := by decide +kernel
theorem dK2_holds_156 : decode cK2_holds 156 = .ok (.ifCond .ne 7, 3) := by decide +kernel
theorem dK2_holds_159 : decode cK2_holds 159 = .ok (.iconst 1, 1) := by decide +kernel
theorem dK2_holds_160 : decode cK2_holds 160 = .ok (.goto 4, 3) := by decide +kernel
theorem dK2_holds_163 : decode cK2_holds 163 = .ok (.iconst 0, 1) := by decide +kernel
theorem dK2_holds_164 : decode cK2_holds 164 = .ok (.ireturn, 1) := by decide +kernel
theorem dJ2_bitCount_0 : decode cJ2_bitCount 0 = .ok (.iload_n 0, 1) := by decide +kernel
theorem dJ2_bitCount_1 : decode cJ2_bitCount 1 = .ok (.iload_n 0, 1) := by decide +kernel
theorem dJ2_bitCount_2 : decode cJ2_bitCount 2 = .ok (.iconst 1, 1) := by decide +kernel
theorem dJ2_bitCount_3 : decode cJ2_bitCount 3 = .ok (.iushr, 1) := by decide +kernel
theorem dJ2_bitCount_4 : decode cJ2_bitCount 4 = .ok (.ldc_w 265, 3) := by decide +kernel
theorem dJ2_bitCount_7 : decode cJ2_bitCount 7 = .ok (.iand, 1) := by decide +kernel
theorem dJ2_bitCount_8 : decode cJ2_bitCount 8 = .ok (.isub, 1) := by decide +kernel
theorem dJ2_bitCount_9 : decode cJ2_bitCount 9 = .ok (.istore_n 0, 1) := by decide +kernel
theorem dJ2_bitCount_10 : decode cJ2_bitCount 10 = .ok (.iload_n 0, 1) := by decide +kernel
theorem dJ2_bitCount_11 : decode cJ2_bitCount 11 = .ok (.ldc_w 266, 3) := by decide +kernel
theorem dJ2_bitCount_14 : decode cJ2_bitCount 14 = .ok (.iand, 1) := by decide +kernel
theorem dJ2_bitCount_15 : decode cJ2_bitCount 15 = .ok (.iload_n 0, 1) := by decide +kernel
theorem dJ2_bitCount_16 : decode cJ2_bitCount 16 = .ok (.iconst 2, 1) := by decide +kernel
theorem dJ2_bitCount_17 : decode cJ2_bitCount 17 = .ok (.iushr, 1) := by decide +kernel
theorem dJ2_bitCount_18 : decode cJ2_bitCount 18 = .ok (.ldc_w 266, 3) := by decide +kernel
theorem dJ2_bitCount_21 : decode cJ2_bitCount 21 = .ok (.iand, 1) := by decide +kernel
theorem dJ2_bitCount_22 : decode cJ2_bitCount 22 = .ok (.iadd, 1) := by decide +kernel
theorem dJ2_bitCount_23 : decode cJ2_bitCount 23 = .ok (.istore_n 0, 1) := by decide +kernel
theorem dJ2_bitCount_24 : decode cJ2_bitCount 24 = .ok (.iload_n 0, 1) := by decide +kernel
theorem dJ2_bitCount_25 : decode cJ2_bitCount 25 = .ok (.iload_n 0, 1) := by decide +kernel
theorem dJ2_bitCount_26 : decode cJ2_bitCount 26 = .ok (.iconst 4, 1) := by decide +kernel
theorem dJ2_bitCount_27 : decode cJ2_bitCount 27 = .ok (.iushr, 1) := by decide +kernel
theorem dJ2_bitCount_28 : decode cJ2_bitCount 28 = .ok (.iadd, 1) := by decide +kernel
theorem dJ2_bitCount_29 : decode cJ2_bitCount 29 = .ok (.ldc_w 267, 3) := by decide +kernel
theorem dJ2_bitCount_32 : decode cJ2_bitCount 32 = .ok (.iand, 1) := by decide +kernel
theorem dJ2_bitCount_33 : decode cJ2_bitCount 33 = .ok (.istore_n 0, 1) := by decide +kernel
theorem dJ2_bitCount_34 : decode cJ2_bitCount 34 = .ok (.iload_n 0, 1) := by decide +kernel
theorem dJ2_bitCount_35 : decode cJ2_bitCount 35 = .ok (.iload_n 0, 1) := by decide +kernel
theorem dJ2_bitCount_36 : decode cJ2_bitCount 36 = .ok (.bipush 8, 2) := by decide +kernel
theorem dJ2_bitCount_38 : decode cJ2_bitCount 38 = .ok (.iushr, 1) := by decide +kernel
theorem dJ2_bitCount_39 : decode cJ2_bitCount 39 = .ok (.iadd, 1) := by decide +kernel
theorem dJ2_bitCount_40 : decode cJ2_bitCount 40 = .ok (.istore_n 0, 1) := by decide +kernel
theorem dJ2_bitCount_41 : decode cJ2_bitCount 41 = .ok (.iload_n 0, 1) := by decide +kernel
theorem dJ2_bitCount_42 : decode cJ2_bitCount 42 = .ok (.iload_n 0, 1) := by decide +kernel
theorem dJ2_bitCount_43 : decode cJ2_bitCount 43 = .ok (.bipush 16, 2) := by decide +kernel
theorem dJ2_bitCount_45 : decode cJ2_bitCount 45 = .ok (.iushr, 1) := by decide +kernel
theorem dJ2_bitCount_46 : decode cJ2_bitCount 46 = .ok (.iadd, 1) := by decide +kernel
theorem dJ2_bitCount_47 : decode cJ2_bitCount 47 = .ok (.istore_n 0, 1) := by decide +kernel
theorem dJ2_bitCount_48 : decode cJ2_bitCount 48 = .ok (.iload_n 0, 1) := by decide +kernel
theorem dJ2_bitCount_49 : decode cJ2_bitCount 49 = .ok (.bipush 63, 2) := by decide +kernel
theorem dJ2_bitCount_51 : decode cJ2_bitCount 51 = .ok (.iand, 1) := by decide +kernel
theorem dJ2_bitCount_52 : decode cJ2_bitCount 52 = .ok (.ireturn, 1) := by decide +kernel
theorem dK0_result_0 : decode cK0_result 0 = .ok (.aload_n 0, 1) := by decide +kernel
theorem dK0_result_1 : decode cK0_result 1 = .ok (.iload_n 1, 1) := by decide +kernel
theorem dK0_result_2 : decode cK0_result 2 = .ok (.iconst 0, 1) := by decide +kernel
theorem dK0_result_3 : decode cK0_result 3 = .ok (.invokevirtual 93, 3) := by decide +kernel
theorem dK0_result_6 : decode cK0_result 6 = .ok (.ireturn, 1) := by decide +kernel
theorem dK0_nthResult_0 : decode cK0_nthResult 0 = .ok (.iload_n 1, 1) := by decide +kernel
theorem dK0_nthResult_1 : decode cK0_nthResult 1 = .ok (.ifCond .ge 6, 3) := by decide +kernel
theorem dK0_nthResult_4 : decode cK0_nthResult 4 = .ok (.bipush (-2), 2) := by decide +kernel
theorem dK0_nthResult_6 : decode cK0_nthResult 6 = .ok (.ireturn, 1) := by decide +kernel
theorem dK0_nthResult_7 : decode cK0_nthResult 7 = .ok (.iload_n 1, 1) := by decide +kernel
theorem dK0_nthResult_8 : decode cK0_nthResult 8 = .ok (.istore_n 3, 1) := by decide +kernel
theorem dK0_nthResult_9 : decode cK0_nthResult 9 = .ok (.iconst 0, 1) := by decide +kernel
theorem dK0_nthResult_10 : decode cK0_nthResult 10 = .ok (.istore 4, 2) := by decide +kernel
theorem dK0_nthResult_12 : decode cK0_nthResult 12 = .ok (.iload 4, 2) := by decide +kernel
theorem dK0_nthResult_14 : decode cK0_nthResult 14 = .ok (.aload_n 0, 1) := by decide +kernel
theorem dK0_nthResult_15 : decode cK0_nthResult 15 = .ok (.getfield 22, 3) := by decide +kernel
theorem dK0_nthResult_18 : decode cK0_nthResult 18 = .ok (.getfield 80, 3) := by decide +kernel
theorem dK0_nthResult_21 : decode cK0_nthResult 21 = .ok (.if_icmp .ge 79, 3) := by decide +kernel
theorem dK0_nthResult_24 : decode cK0_nthResult 24 = .ok (.aload_n 0, 1) := by decide +kernel
theorem dK0_nthResult_25 : decode cK0_nthResult 25 = .ok (.getfield 22, 3) := by decide +kernel
theorem dK0_nthResult_28 : decode cK0_nthResult 28 = .ok (.aload_n 0, 1) := by decide +kernel
theorem dK0_nthResult_29 : decode cK0_nthResult 29 = .ok (.getfield 12, 3) := by decide +kernel
theorem dK0_nthResult_32 : decode cK0_nthResult 32 = .ok (.iload 4, 2) := by decide +kernel
theorem dK0_nthResult_34 : decode cK0_nthResult 34 = .ok (.invokevirtual 83, 3) := by decide +kernel
theorem dK0_nthResult_37 : decode cK0_nthResult 37 = .ok (.istore 5, 2) := by decide +kernel
theorem dK0_nthResult_39 : decode cK0_nthResult 39 = .ok (.iload_n 2, 1) := by decide +kernel
theorem dK0_nthResult_40 : decode cK0_nthResult 40 = .ok (.ifCond .eq 23, 3) := by decide +kernel
theorem dK0_nthResult_43 : decode cK0_nthResult 43 = .ok (.aload_n 0, 1) := by decide +kernel
theorem dK0_nthResult_44 : decode cK0_nthResult 44 = .ok (.getfield 22, 3) := by decide +kernel
theorem dK0_nthResult_47 : decode cK0_nthResult 47 = .ok (.aload_n 0, 1) := by decide +kernel
theorem dK0_nthResult_48 : decode cK0_nthResult 48 = .ok (.getfield 16, 3) := by decide +kernel
theorem dK0_nthResult_51 : decode cK0_nthResult 51 = .ok (.iload 4, 2) := by decide +kernel
theorem dK0_nthResult_53 : decode cK0_nthResult 53 = .ok (.invokevirtual 83, 3) := by decide +kernel
theorem dK0_nthResult_56 : decode cK0_nthResult 56 = .ok (.iload 5, 2) := by decide +kernel
theorem dK0_nthResult_58 : decode cK0_nthResult 58 = .ok (.iconst (-1), 1) := by decide +kernel
theorem dK0_nthResult_59 : decode cK0_nthResult 59 = .ok (.ixor, 1) := by decide +kernel
end
section
theorem dK0_nthResult_60 : decode cK0_nthResult 60 = .ok (.iand, 1) := by decide +kernel
theorem dK0_nthResult_61 : decode cK0_nthResult 61 = .ok (.istore 5, 2) := by decide +kernel
theorem dK0_nthResult_63 : decode cK0_nthResult 63 = .ok (.iload 5, 2) := by decide +kernel
theorem dK0_nthResult_65 : decode cK0_nthResult 65 = .ok (.invokestatic 87, 3) := by decide +kernel
theorem dK0_nthResult_68 : decode cK0_nthResult 68 = .ok (.istore 6, 2) := by decide +kernel
theorem dK0_nthResult_70 : decode cK0_nthResult 70 = .ok (.iload_n 3, 1) := by decide +kernel
theorem dK0_nthResult_71 : decode cK0_nthResult 71 = .ok (.iload 6, 2) := by decide +kernel
theorem dK0_nthResult_73 : decode cK0_nthResult 73 = .ok (.if_icmp .ge 16, 3) := by decide +kernel
theorem dK0_nthResult_76 : decode cK0_nthResult 76 = .ok (.bipush 12, 2) := by decide +kernel
theorem dK0_nthResult_78 : decode cK0_nthResult 78 = .ok (.iload 4, 2) := by decide +kernel
theorem dK0_nthResult_80 : decode cK0_nthResult 80 = .ok (.imul, 1) := by decide +kernel
theorem dK0_nthResult_81 : decode cK0_nthResult 81 = .ok (.iload 5, 2) := by decide +kernel
theorem dK0_nthResult_83 : decode cK0_nthResult 83 = .ok (.iload_n 3, 1) := by decide +kernel
theorem dK0_nthResult_84 : decode cK0_nthResult 84 = .ok (.invokestatic 153, 3) := by decide +kernel
theorem dK0_nthResult_87 : decode cK0_nthResult 87 = .ok (.iadd, 1) := by decide +kernel
theorem dK0_nthResult_88 : decode cK0_nthResult 88 = .ok (.ireturn, 1) := by decide +kernel
theorem dK0_nthResult_89 : decode cK0_nthResult 89 = .ok (.iload_n 3, 1) := by decide +kernel
theorem dK0_nthResult_90 : decode cK0_nthResult 90 = .ok (.iload 6, 2) := by decide +kernel
theorem dK0_nthResult_92 : decode cK0_nthResult 92 = .ok (.isub, 1) := by decide +kernel
theorem dK0_nthResult_93 : decode cK0_nthResult 93 = .ok (.istore_n 3, 1) := by decide +kernel
theorem dK0_nthResult_94 : decode cK0_nthResult 94 = .ok (.iinc 4 1, 3) := by decide +kernel
theorem dK0_nthResult_97 : decode cK0_nthResult 97 = .ok (.goto (-85), 3) := by decide +kernel
theorem dK0_nthResult_100 : decode cK0_nthResult 100 = .ok (.bipush (-2), 2) := by decide +kernel
theorem dK0_nthResult_102 : decode cK0_nthResult 102 = .ok (.ireturn, 1) := by decide +kernel
theorem dK0_nthMember_0 : decode cK0_nthMember 0 = .ok (.iload_n 1, 1) := by decide +kernel
theorem dK0_nthMember_1 : decode cK0_nthMember 1 = .ok (.istore_n 2, 1) := by decide +kernel
theorem dK0_nthMember_2 : decode cK0_nthMember 2 = .ok (.iconst 0, 1) := by decide +kernel
theorem dK0_nthMember_3 : decode cK0_nthMember 3 = .ok (.istore_n 3, 1) := by decide +kernel
theorem dK0_nthMember_4 : decode cK0_nthMember 4 = .ok (.iload_n 3, 1) := by decide +kernel
theorem dK0_nthMember_5 : decode cK0_nthMember 5 = .ok (.bipush 12, 2) := by decide +kernel
theorem dK0_nthMember_7 : decode cK0_nthMember 7 = .ok (.if_icmp .ge 26, 3) := by decide +kernel
theorem dK0_nthMember_10 : decode cK0_nthMember 10 = .ok (.iload_n 0, 1) := by decide +kernel
theorem dK0_nthMember_11 : decode cK0_nthMember 11 = .ok (.iload_n 3, 1) := by decide +kernel
theorem dK0_nthMember_12 : decode cK0_nthMember 12 = .ok (.invokestatic 180, 3) := by decide +kernel
theorem dK0_nthMember_15 : decode cK0_nthMember 15 = .ok (.ifCond .eq 12, 3) := by decide +kernel
theorem dK0_nthMember_18 : decode cK0_nthMember 18 = .ok (.iload_n 2, 1) := by decide +kernel
theorem dK0_nthMember_19 : decode cK0_nthMember 19 = .ok (.ifCond .ne 5, 3) := by decide +kernel
theorem dK0_nthMember_22 : decode cK0_nthMember 22 = .ok (.iload_n 3, 1) := by decide +kernel
theorem dK0_nthMember_23 : decode cK0_nthMember 23 = .ok (.ireturn, 1) := by decide +kernel
theorem dK0_nthMember_24 : decode cK0_nthMember 24 = .ok (.iinc 2 (-1), 3) := by decide +kernel
theorem dK0_nthMember_27 : decode cK0_nthMember 27 = .ok (.iinc 3 1, 3) := by decide +kernel
theorem dK0_nthMember_30 : decode cK0_nthMember 30 = .ok (.goto (-26), 3) := by decide +kernel
theorem dK0_nthMember_33 : decode cK0_nthMember 33 = .ok (.bipush (-2), 2) := by decide +kernel
theorem dK0_nthMember_35 : decode cK0_nthMember 35 = .ok (.ireturn, 1) := by decide +kernel
theorem dK0_isOf_0 : decode cK0_isOf 0 = .ok (.iload_n 1, 1) := by decide +kernel
theorem dK0_isOf_1 : decode cK0_isOf 1 = .ok (.invokestatic 65, 3) := by decide +kernel
theorem dK0_isOf_4 : decode cK0_isOf 4 = .ok (.ifCond .eq 10, 3) := by decide +kernel
theorem dK0_isOf_7 : decode cK0_isOf 7 = .ok (.iload_n 2, 1) := by decide +kernel
theorem dK0_isOf_8 : decode cK0_isOf 8 = .ok (.invokestatic 65, 3) := by decide +kernel
theorem dK0_isOf_11 : decode cK0_isOf 11 = .ok (.ifCond .ne 5, 3) := by decide +kernel
theorem dK0_isOf_14 : decode cK0_isOf 14 = .ok (.iconst (-1), 1) := by decide +kernel
theorem dK0_isOf_15 : decode cK0_isOf 15 = .ok (.ireturn, 1) := by decide +kernel
theorem dK0_isOf_16 : decode cK0_isOf 16 = .ok (.aload_n 0, 1) := by decide +kernel
theorem dK0_isOf_17 : decode cK0_isOf 17 = .ok (.getfield 12, 3) := by decide +kernel
theorem dK0_isOf_20 : decode cK0_isOf 20 = .ok (.iload_n 1, 1) := by decide +kernel
theorem dK0_isOf_21 : decode cK0_isOf 21 = .ok (.iload_n 2, 1) := by decide +kernel
theorem dK0_isOf_22 : decode cK0_isOf 22 = .ok (.invokevirtual 97, 3) := by decide +kernel
theorem dK0_isOf_25 : decode cK0_isOf 25 = .ok (.ifCond .eq 7, 3) := by decide +kernel
theorem dK0_isOf_28 : decode cK0_isOf 28 = .ok (.iconst 1, 1) := by decide +kernel
theorem dK0_isOf_29 : decode cK0_isOf 29 = .ok (.goto 4, 3) := by decide +kernel
theorem dK0_isOf_32 : decode cK0_isOf 32 = .ok (.iconst 0, 1) := by decide +kernel
theorem dK0_isOf_33 : decode cK0_isOf 33 = .ok (.ireturn, 1) := by decide +kernel
theorem dK1_isMember_0 : decode cK1_isMember 0 = .ok (.aload_n 0, 1) := by decide +kernel
theorem dK1_isMember_1 : decode cK1_isMember 1 = .ok (.getfield 15, 3) := by decide +kernel
theorem dK1_isMember_4 : decode cK1_isMember 4 = .ok (.iload_n 2, 1) := by decide +kernel
theorem dK1_isMember_5 : decode cK1_isMember 5 = .ok (.iaload, 1) := by decide +kernel
theorem dK1_isMember_6 : decode cK1_isMember 6 = .ok (.iload_n 1, 1) := by decide +kernel
theorem dK1_isMember_7 : decode cK1_isMember 7 = .ok (.invokestatic 29, 3) := by decide +kernel
theorem dK1_isMember_10 : decode cK1_isMember 10 = .ok (.ireturn, 1) := by decide +kernel
theorem dK0_reason_0 : decode cK0_reason 0 = .ok (.iload_n 1, 1) := by decide +kernel
theorem dK0_reason_1 : decode cK0_reason 1 = .ok (.invokestatic 65, 3) := by decide +kernel
theorem dK0_reason_4 : decode cK0_reason 4 = .ok (.ifCond .eq 10, 3) := by decide +kernel
theorem dK0_reason_7 : decode cK0_reason 7 = .ok (.iload_n 2, 1) := by decide +kernel
theorem dK0_reason_8 : decode cK0_reason 8 = .ok (.invokestatic 65, 3) := by decide +kernel
theorem dK0_reason_11 : decode cK0_reason 11 = .ok (.ifCond .ne 5, 3) := by decide +kernel
theorem dK0_reason_14 : decode cK0_reason 14 = .ok (.iconst (-1), 1) := by decide +kernel
theorem dK0_reason_15 : decode cK0_reason 15 = .ok (.ireturn, 1) := by decide +kernel
theorem dK0_reason_16 : decode cK0_reason 16 = .ok (.aload_n 0, 1) := by decide +kernel
theorem dK0_reason_17 : decode cK0_reason 17 = .ok (.getfield 12, 3) := by decide +kernel
theorem dK0_reason_20 : decode cK0_reason 20 = .ok (.iload_n 1, 1) := by decide +kernel
theorem dK0_reason_21 : decode cK0_reason 21 = .ok (.iload_n 2, 1) := by decide +kernel
theorem dK0_reason_22 : decode cK0_reason 22 = .ok (.iload_n 3, 1) := by decide +kernel
theorem dK0_reason_23 : decode cK0_reason 23 = .ok (.invokevirtual 100, 3) := by decide +kernel
theorem dK0_reason_26 : decode cK0_reason 26 = .ok (.ireturn, 1) := by decide +kernel
theorem dK1_nthOfReason_0 : decode cK1_nthOfReason 0 = .ok (.aload_n 0, 1) := by decide +kernel
theorem dK1_nthOfReason_1 : decode cK1_nthOfReason 1 = .ok (.iload_n 1, 1) := by decide +kernel
theorem dK1_nthOfReason_2 : decode cK1_nthOfReason 2 = .ok (.iload_n 2, 1) := by decide +kernel
theorem dK1_nthOfReason_3 : decode cK1_nthOfReason 3 = .ok (.invokevirtual 49, 3) := by decide +kernel
theorem dK1_nthOfReason_6 : decode cK1_nthOfReason 6 = .ok (.istore 4, 2) := by decide +kernel
theorem dK1_nthOfReason_8 : decode cK1_nthOfReason 8 = .ok (.iload 4, 2) := by decide +kernel
theorem dK1_nthOfReason_10 : decode cK1_nthOfReason 10 = .ok (.iconst (-1), 1) := by decide +kernel
theorem dK1_nthOfReason_11 : decode cK1_nthOfReason 11 = .ok (.if_icmp .eq 13, 3) := by decide +kernel
theorem dK1_nthOfReason_14 : decode cK1_nthOfReason 14 = .ok (.iload_n 3, 1) := by decide +kernel
theorem dK1_nthOfReason_15 : decode cK1_nthOfReason 15 = .ok (.ifCond .lt 9, 3) := by decide +kernel
theorem dK1_nthOfReason_18 : decode cK1_nthOfReason 18 = .ok (.iload_n 3, 1) := by decide +kernel
theorem dK1_nthOfReason_19 : decode cK1_nthOfReason 19 = .ok (.iload 4, 2) := by decide +kernel
theorem dK1_nthOfReason_21 : decode cK1_nthOfReason 21 = .ok (.if_icmp .le 6, 3) := by decide +kernel
theorem dK1_nthOfReason_24 : decode cK1_nthOfReason 24 = .ok (.bipush (-2), 2) := by decide +kernel
theorem dK1_nthOfReason_26 : decode cK1_nthOfReason 26 = .ok (.ireturn, 1) := by decide +kernel
theorem dK1_nthOfReason_27 : decode cK1_nthOfReason 27 = .ok (.iload_n 1, 1) := by decide +kernel
theorem dK1_nthOfReason_28 : decode cK1_nthOfReason 28 = .ok (.istore 5, 2) := by decide +kernel
theorem dK1_nthOfReason_30 : decode cK1_nthOfReason 30 = .ok (.iconst 0, 1) := by decide +kernel
theorem dK1_nthOfReason_31 : decode cK1_nthOfReason 31 = .ok (.istore 6, 2) := by decide +kernel
theorem dK1_nthOfReason_33 : decode cK1_nthOfReason 33 = .ok (.aload_n 0, 1) := by decide +kernel
theorem dK1_nthOfReason_34 : decode cK1_nthOfReason 34 = .ok (.iload_n 1, 1) := by decide +kernel
theorem dK1_nthOfReason_35 : decode cK1_nthOfReason 35 = .ok (.iconst 0, 1) := by decide +kernel
theorem dK1_nthOfReason_36 : decode cK1_nthOfReason 36 = .ok (.invokevirtual 25, 3) := by decide +kernel
theorem dK1_nthOfReason_39 : decode cK1_nthOfReason 39 = .ok (.aload_n 0, 1) := by decide +kernel
theorem dK1_nthOfReason_40 : decode cK1_nthOfReason 40 = .ok (.getfield 18, 3) := by decide +kernel
theorem dK1_nthOfReason_43 : decode cK1_nthOfReason 43 = .ok (.iload 4, 2) := by decide +kernel
theorem dK1_nthOfReason_45 : decode cK1_nthOfReason 45 = .ok (.iaload, 1) := by decide +kernel
theorem dK1_nthOfReason_46 : decode cK1_nthOfReason 46 = .ok (.iand, 1) := by decide +kernel
theorem dK1_nthOfReason_47 : decode cK1_nthOfReason 47 = .ok (.invokestatic 52, 3) := by decide +kernel
theorem dK1_nthOfReason_50 : decode cK1_nthOfReason 50 = .ok (.istore 7, 2) := by decide +kernel
theorem dK1_nthOfReason_52 : decode cK1_nthOfReason 52 = .ok (.iconst 1, 1) := by decide +kernel
theorem dK1_nthOfReason_53 : decode cK1_nthOfReason 53 = .ok (.istore 8, 2) := by decide +kernel
theorem dK1_nthOfReason_55 : decode cK1_nthOfReason 55 = .ok (.iload 8, 2) := by decide +kernel
theorem dK1_nthOfReason_57 : decode cK1_nthOfReason 57 = .ok (.iload_n 3, 1) := by decide +kernel
theorem dK1_nthOfReason_58 : decode cK1_nthOfReason 58 = .ok (.if_icmp .gt 39, 3) := by decide +kernel
theorem dK1_nthOfReason_61 : decode cK1_nthOfReason 61 = .ok (.iload 7, 2) := by decide +kernel
theorem dK1_nthOfReason_63 : decode cK1_nthOfReason 63 = .ok (.istore 5, 2) := by decide +kernel
theorem dK1_nthOfReason_65 : decode cK1_nthOfReason 65 = .ok (.iconst 1, 1) := by decide +kernel
theorem dK1_nthOfReason_66 : decode cK1_nthOfReason 66 = .ok (.istore 6, 2) := by decide +kernel
theorem dK1_nthOfReason_68 : decode cK1_nthOfReason 68 = .ok (.aload_n 0, 1) := by decide +kernel
theorem dK1_nthOfReason_69 : decode cK1_nthOfReason 69 = .ok (.iload 5, 2) := by decide +kernel
theorem dK1_nthOfReason_71 : decode cK1_nthOfReason 71 = .ok (.iconst 1, 1) := by decide +kernel
theorem dK1_nthOfReason_72 : decode cK1_nthOfReason 72 = .ok (.invokevirtual 25, 3) := by decide +kernel
theorem dK1_nthOfReason_75 : decode cK1_nthOfReason 75 = .ok (.aload_n 0, 1) := by decide +kernel
theorem dK1_nthOfReason_76 : decode cK1_nthOfReason 76 = .ok (.getfield 18, 3) := by decide +kernel
theorem dK1_nthOfReason_79 : decode cK1_nthOfReason 79 = .ok (.iload 4, 2) := by decide +kernel
theorem dK1_nthOfReason_81 : decode cK1_nthOfReason 81 = .ok (.iload 8, 2) := by decide +kernel
theorem dK1_nthOfReason_83 : decode cK1_nthOfReason 83 = .ok (.isub, 1) := by decide +kernel
theorem dK1_nthOfReason_84 : decode cK1_nthOfReason 84 = .ok (.iaload, 1) := by decide +kernel
theorem dK1_nthOfReason_85 : decode cK1_nthOfReason 85 = .ok (.iand, 1) := by decide +kernel
theorem dK1_nthOfReason_86 : decode cK1_nthOfReason 86 = .ok (.invokestatic 52, 3) := by decide +kernel
theorem dK1_nthOfReason_89 : decode cK1_nthOfReason 89 = .ok (.istore 7, 2) := by decide +kernel
theorem dK1_nthOfReason_91 : decode cK1_nthOfReason 91 = .ok (.iinc 8 1, 3) := by decide +kernel
theorem dK1_nthOfReason_94 : decode cK1_nthOfReason 94 = .ok (.goto (-39), 3) := by decide +kernel
theorem dK1_nthOfReason_97 : decode cK1_nthOfReason 97 = .ok (.iload 5, 2) := by decide +kernel
theorem dK1_nthOfReason_99 : decode cK1_nthOfReason 99 = .ok (.iload 6, 2) := by decide +kernel
theorem dK1_nthOfReason_101 : decode cK1_nthOfReason 101 = .ok (.iload 7, 2) := by decide +kernel
theorem dK1_nthOfReason_103 : decode cK1_nthOfReason 103 = .ok (.invokestatic 55, 3) := by decide +kernel
theorem dK1_nthOfReason_106 : decode cK1_nthOfReason 106 = .ok (.ireturn, 1) := by decide +kernel
theorem dK1_fewestBelows_0 : decode cK1_fewestBelows 0 = .ok (.aload_n 0, 1) := by decide +kernel
theorem dK1_fewestBelows_1 : decode cK1_fewestBelows 1 = .ok (.iload_n 1, 1) := by decide +kernel
theorem dK1_fewestBelows_2 : decode cK1_fewestBelows 2 = .ok (.iconst 0, 1) := by decide +kernel
theorem dK1_fewestBelows_3 : decode cK1_fewestBelows 3 = .ok (.invokevirtual 25, 3) := by decide +kernel
theorem dK1_fewestBelows_6 : decode cK1_fewestBelows 6 = .ok (.istore_n 3, 1) := by decide +kernel
theorem dK1_fewestBelows_7 : decode cK1_fewestBelows 7 = .ok (.iconst 1, 1) := by decide +kernel
theorem dK1_fewestBelows_8 : decode cK1_fewestBelows 8 = .ok (.iload_n 2, 1) := by decide +kernel
theorem dK1_fewestBelows_9 : decode cK1_fewestBelows 9 = .ok (.ishl, 1) := by decide +kernel
theorem dK1_fewestBelows_10 : decode cK1_fewestBelows 10 = .ok (.istore 4, 2) := by decide +kernel
theorem dK1_fewestBelows_12 : decode cK1_fewestBelows 12 = .ok (.iconst 0, 1) := by decide +kernel
theorem dK1_fewestBelows_13 : decode cK1_fewestBelows 13 = .ok (.istore 5, 2) := by decide +kernel
theorem dK1_fewestBelows_15 : decode cK1_fewestBelows 15 = .ok (.iload 5, 2) := by decide +kernel
theorem dK1_fewestBelows_17 : decode cK1_fewestBelows 17 = .ok (.bipush 12, 2) := by decide +kernel
theorem dK1_fewestBelows_19 : decode cK1_fewestBelows 19 = .ok (.if_icmp .ge 39, 3) := by decide +kernel
theorem dK1_fewestBelows_22 : decode cK1_fewestBelows 22 = .ok (.aload_n 0, 1) := by decide +kernel
theorem dK1_fewestBelows_23 : decode cK1_fewestBelows 23 = .ok (.getfield 18, 3) := by decide +kernel
theorem dK1_fewestBelows_26 : decode cK1_fewestBelows 26 = .ok (.iload 5, 2) := by decide +kernel
theorem dK1_fewestBelows_28 : decode cK1_fewestBelows 28 = .ok (.iload 4, 2) := by decide +kernel
theorem dK1_fewestBelows_30 : decode cK1_fewestBelows 30 = .ok (.iastore, 1) := by decide +kernel
theorem dK1_fewestBelows_31 : decode cK1_fewestBelows 31 = .ok (.iload_n 3, 1) := by decide +kernel
theorem dK1_fewestBelows_32 : decode cK1_fewestBelows 32 = .ok (.iload 4, 2) := by decide +kernel
theorem dK1_fewestBelows_34 : decode cK1_fewestBelows 34 = .ok (.iand, 1) := by decide +kernel
theorem dK1_fewestBelows_35 : decode cK1_fewestBelows 35 = .ok (.ifCond .eq 6, 3) := by decide +kernel
theorem dK1_fewestBelows_38 : decode cK1_fewestBelows 38 = .ok (.iload 5, 2) := by decide +kernel
theorem dK1_fewestBelows_40 : decode cK1_fewestBelows 40 = .ok (.ireturn, 1) := by decide +kernel
theorem dK1_fewestBelows_41 : decode cK1_fewestBelows 41 = .ok (.iload 4, 2) := by decide +kernel
theorem dK1_fewestBelows_43 : decode cK1_fewestBelows 43 = .ok (.aload_n 0, 1) := by decide +kernel
theorem dK1_fewestBelows_44 : decode cK1_fewestBelows 44 = .ok (.iload 4, 2) := by decide +kernel
theorem dK1_fewestBelows_46 : decode cK1_fewestBelows 46 = .ok (.invokevirtual 59, 3) := by decide +kernel
theorem dK1_fewestBelows_49 : decode cK1_fewestBelows 49 = .ok (.ior, 1) := by decide +kernel
theorem dK1_fewestBelows_50 : decode cK1_fewestBelows 50 = .ok (.istore 4, 2) := by decide +kernel
theorem dK1_fewestBelows_52 : decode cK1_fewestBelows 52 = .ok (.iinc 5 1, 3) := by decide +kernel
theorem dK1_fewestBelows_55 : decode cK1_fewestBelows 55 = .ok (.goto (-40), 3) := by decide +kernel
theorem dK1_fewestBelows_58 : decode cK1_fewestBelows 58 = .ok (.iconst (-1), 1) := by decide +kernel
theorem dK1_fewestBelows_59 : decode cK1_fewestBelows 59 = .ok (.ireturn, 1) := by decide +kernel
theorem dK1_leadingInto_0 : decode cK1_leadingInto 0 = .ok (.iconst 0, 1) := by decide +kernel
theorem dK1_leadingInto_1 : decode cK1_leadingInto 1 = .ok (.istore_n 2, 1) := by decide +kernel
theorem dK1_leadingInto_2 : decode cK1_leadingInto 2 = .ok (.iconst 0, 1) := by decide +kernel
theorem dK1_leadingInto_3 : decode cK1_leadingInto 3 = .ok (.istore_n 3, 1) := by decide +kernel
theorem dK1_leadingInto_4 : decode cK1_leadingInto 4 = .ok (.iload_n 3, 1) := by decide +kernel
theorem dK1_leadingInto_5 : decode cK1_leadingInto 5 = .ok (.bipush 12, 2) := by decide +kernel
theorem dK1_leadingInto_7 : decode cK1_leadingInto 7 = .ok (.if_icmp .ge 26, 3) := by decide +kernel
theorem dK1_leadingInto_10 : decode cK1_leadingInto 10 = .ok (.aload_n 0, 1) := by decide +kernel
theorem dK1_leadingInto_11 : decode cK1_leadingInto 11 = .ok (.iload_n 3, 1) := by decide +kernel
theorem dK1_leadingInto_12 : decode cK1_leadingInto 12 = .ok (.iconst 1, 1) := by decide +kernel
theorem dK1_leadingInto_13 : decode cK1_leadingInto 13 = .ok (.invokevirtual 25, 3) := by decide +kernel
theorem dK1_leadingInto_16 : decode cK1_leadingInto 16 = .ok (.iload_n 1, 1) := by decide +kernel
theorem dK1_leadingInto_17 : decode cK1_leadingInto 17 = .ok (.iand, 1) := by decide +kernel
theorem dK1_leadingInto_18 : decode cK1_leadingInto 18 = .ok (.ifCond .eq 9, 3) := by decide +kernel
theorem dK1_leadingInto_21 : decode cK1_leadingInto 21 = .ok (.iload_n 2, 1) := by decide +kernel
theorem dK1_leadingInto_22 : decode cK1_leadingInto 22 = .ok (.iconst 1, 1) := by decide +kernel
theorem dK1_leadingInto_23 : decode cK1_leadingInto 23 = .ok (.iload_n 3, 1) := by decide +kernel
theorem dK1_leadingInto_24 : decode cK1_leadingInto 24 = .ok (.ishl, 1) := by decide +kernel
theorem dK1_leadingInto_25 : decode cK1_leadingInto 25 = .ok (.ior, 1) := by decide +kernel
theorem dK1_leadingInto_26 : decode cK1_leadingInto 26 = .ok (.istore_n 2, 1) := by decide +kernel
theorem dK1_leadingInto_27 : decode cK1_leadingInto 27 = .ok (.iinc 3 1, 3) := by decide +kernel
theorem dK1_leadingInto_30 : decode cK1_leadingInto 30 = .ok (.goto (-26), 3) := by decide +kernel
theorem dK1_leadingInto_33 : decode cK1_leadingInto 33 = .ok (.iload_n 2, 1) := by decide +kernel
theorem dK1_leadingInto_34 : decode cK1_leadingInto 34 = .ok (.ireturn, 1) := by decide +kernel
theorem dK0_change_0 : decode cK0_change 0 = .ok (.iload_n 2, 1) := by decide +kernel
theorem dK0_change_1 : decode cK0_change 1 = .ok (.iload_n 3, 1) := by decide +kernel
theorem dK0_change_2 : decode cK0_change 2 = .ok (.iload 4, 2) := by decide +kernel
theorem dK0_change_4 : decode cK0_change 4 = .ok (.invokestatic 104, 3) := by decide +kernel
theorem dK0_change_7 : decode cK0_change 7 = .ok (.ifCond .eq 16, 3) := by decide +kernel
theorem dK0_change_10 : decode cK0_change 10 = .ok (.iload 5, 2) := by decide +kernel
theorem dK0_change_12 : decode cK0_change 12 = .ok (.iconst 1, 1) := by decide +kernel
theorem dK0_change_13 : decode cK0_change 13 = .ok (.if_icmp .lt 10, 3) := by decide +kernel
theorem dK0_change_16 : decode cK0_change 16 = .ok (.iload 5, 2) := by decide +kernel
theorem dK0_change_18 : decode cK0_change 18 = .ok (.bipush 9, 2) := by decide +kernel
theorem dK0_change_20 : decode cK0_change 20 = .ok (.if_icmp .le 5, 3) := by decide +kernel
theorem dK0_change_23 : decode cK0_change 23 = .ok (.iconst (-1), 1) := by decide +kernel
theorem dK0_change_24 : decode cK0_change 24 = .ok (.ireturn, 1) := by decide +kernel
theorem dK0_change_25 : decode cK0_change 25 = .ok (.aload_n 0, 1) := by decide +kernel
theorem dK0_change_26 : decode cK0_change 26 = .ok (.getfield 29, 3) := by decide +kernel
theorem dK0_change_29 : decode cK0_change 29 = .ok (.iload_n 1, 1) := by decide +kernel
theorem dK0_change_30 : decode cK0_change 30 = .ok (.iload_n 2, 1) := by decide +kernel
theorem dK0_change_31 : decode cK0_change 31 = .ok (.iload_n 3, 1) := by decide +kernel
theorem dK0_change_32 : decode cK0_change 32 = .ok (.iload 4, 2) := by decide +kernel
theorem dK0_change_34 : decode cK0_change 34 = .ok (.invokestatic 108, 3) := by decide +kernel
theorem dK0_change_37 : decode cK0_change 37 = .ok (.iload 5, 2) := by decide +kernel
theorem dK0_change_39 : decode cK0_change 39 = .ok (.invokevirtual 111, 3) := by decide +kernel
theorem dK0_change_42 : decode cK0_change 42 = .ok (.ireturn, 1) := by decide +kernel
theorem dK3_add_0 : decode cK3_add 0 = .ok (.iconst 0, 1) := by decide +kernel
theorem dK3_add_1 : decode cK3_add 1 = .ok (.istore 4, 2) := by decide +kernel
theorem dK3_add_3 : decode cK3_add 3 = .ok (.iload 4, 2) := by decide +kernel
theorem dK3_add_5 : decode cK3_add 5 = .ok (.aload_n 0, 1) := by decide +kernel
theorem dK3_add_6 : decode cK3_add 6 = .ok (.getfield 22, 3) := by decide +kernel
theorem dK3_add_9 : decode cK3_add 9 = .ok (.if_icmp .ge 34, 3) := by decide +kernel
theorem dK3_add_12 : decode cK3_add 12 = .ok (.aload_n 0, 1) := by decide +kernel
theorem dK3_add_13 : decode cK3_add 13 = .ok (.getfield 9, 3) := by decide +kernel
theorem dK3_add_16 : decode cK3_add 16 = .ok (.iload 4, 2) := by decide +kernel
theorem dK3_add_18 : decode cK3_add 18 = .ok (.baload, 1) := by decide +kernel
theorem dK3_add_19 : decode cK3_add 19 = .ok (.iload_n 1, 1) := by decide +kernel
theorem dK3_add_20 : decode cK3_add 20 = .ok (.if_icmp .ne 17, 3) := by decide +kernel
theorem dK3_add_23 : decode cK3_add 23 = .ok (.aload_n 0, 1) := by decide +kernel
theorem dK3_add_24 : decode cK3_add 24 = .ok (.getfield 15, 3) := by decide +kernel
theorem dK3_add_27 : decode cK3_add 27 = .ok (.iload 4, 2) := by decide +kernel
theorem dK3_add_29 : decode cK3_add 29 = .ok (.iaload, 1) := by decide +kernel
theorem dK3_add_30 : decode cK3_add 30 = .ok (.iload_n 2, 1) := by decide +kernel
theorem dK3_add_31 : decode cK3_add 31 = .ok (.if_icmp .ne 6, 3) := by decide +kernel
theorem dK3_add_34 : decode cK3_add 34 = .ok (.bipush (-2), 2) := by decide +kernel
theorem dK3_add_36 : decode cK3_add 36 = .ok (.ireturn, 1) := by decide +kernel
theorem dK3_add_37 : decode cK3_add 37 = .ok (.iinc 4 1, 3) := by decide +kernel
theorem dK3_add_40 : decode cK3_add 40 = .ok (.goto (-37), 3) := by decide +kernel
theorem dK3_add_43 : decode cK3_add 43 = .ok (.aload_n 0, 1) := by decide +kernel
theorem dK3_add_44 : decode cK3_add 44 = .ok (.getfield 22, 3) := by decide +kernel
theorem dK3_add_47 : decode cK3_add 47 = .ok (.bipush 12, 2) := by decide +kernel
theorem dK3_add_49 : decode cK3_add 49 = .ok (.if_icmp .lt 6, 3) := by decide +kernel
theorem dK3_add_52 : decode cK3_add 52 = .ok (.bipush (-3), 2) := by decide +kernel
theorem dK3_add_54 : decode cK3_add 54 = .ok (.ireturn, 1) := by decide +kernel
theorem dK3_add_55 : decode cK3_add 55 = .ok (.aload_n 0, 1) := by decide +kernel
theorem dK3_add_56 : decode cK3_add 56 = .ok (.getfield 9, 3) := by decide +kernel
theorem dK3_add_59 : decode cK3_add 59 = .ok (.aload_n 0, 1) := by decide +kernel
theorem dK3_add_60 : decode cK3_add 60 = .ok (.getfield 22, 3) := by decide +kernel
theorem dK3_add_63 : decode cK3_add 63 = .ok (.iload_n 1, 1) := by decide +kernel
theorem dK3_add_64 : decode cK3_add 64 = .ok (.bastore, 1) := by decide +kernel
theorem dK3_add_65 : decode cK3_add 65 = .ok (.aload_n 0, 1) := by decide +kernel
theorem dK3_add_66 : decode cK3_add 66 = .ok (.getfield 15, 3) := by decide +kernel
theorem dK3_add_69 : decode cK3_add 69 = .ok (.aload_n 0, 1) := by decide +kernel
theorem dK3_add_70 : decode cK3_add 70 = .ok (.getfield 22, 3) := by decide +kernel
theorem dK3_add_73 : decode cK3_add 73 = .ok (.iload_n 2, 1) := by decide +kernel
theorem dK3_add_74 : decode cK3_add 74 = .ok (.iastore, 1) := by decide +kernel
theorem dK3_add_75 : decode cK3_add 75 = .ok (.aload_n 0, 1) := by decide +kernel
theorem dK3_add_76 : decode cK3_add 76 = .ok (.getfield 19, 3) := by decide +kernel
theorem dK3_add_79 : decode cK3_add 79 = .ok (.aload_n 0, 1) := by decide +kernel
theorem dK3_add_80 : decode cK3_add 80 = .ok (.getfield 22, 3) := by decide +kernel
theorem dK3_add_83 : decode cK3_add 83 = .ok (.iload_n 3, 1) := by decide +kernel
theorem dK3_add_84 : decode cK3_add 84 = .ok (.iastore, 1) := by decide +kernel
theorem dK3_add_85 : decode cK3_add 85 = .ok (.aload_n 0, 1) := by decide +kernel
theorem dK3_add_86 : decode cK3_add 86 = .ok (.dup, 1) := by decide +kernel
theorem dK3_add_87 : decode cK3_add 87 = .ok (.getfield 22, 3) := by decide +kernel
theorem dK3_add_90 : decode cK3_add 90 = .ok (.iconst 1, 1) := by decide +kernel
theorem dK3_add_91 : decode cK3_add 91 = .ok (.iadd, 1) := by decide +kernel
theorem dK3_add_92 : decode cK3_add 92 = .ok (.putfield 22, 3) := by decide +kernel
theorem dK3_add_95 : decode cK3_add 95 = .ok (.aload_n 0, 1) := by decide +kernel
theorem dK3_add_96 : decode cK3_add 96 = .ok (.getfield 22, 3) := by decide +kernel
theorem dK3_add_99 : decode cK3_add 99 = .ok (.iconst 1, 1) := by decide +kernel
theorem dK3_add_100 : decode cK3_add 100 = .ok (.isub, 1) := by decide +kernel
theorem dK3_add_101 : decode cK3_add 101 = .ok (.ireturn, 1) := by decide +kernel
theorem dK0_suggest_0 : decode cK0_suggest 0 = .ok (.aload_n 0, 1) := by decide +kernel
theorem dK0_suggest_1 : decode cK0_suggest 1 = .ok (.getfield 22, 3) := by decide +kernel
theorem dK0_suggest_4 : decode cK0_suggest 4 = .ok (.iload_n 1, 1) := by decide +kernel
theorem dK0_suggest_5 : decode cK0_suggest 5 = .ok (.invokevirtual 114, 3) := by decide +kernel
theorem dK0_suggest_8 : decode cK0_suggest 8 = .ok (.ifCond .eq 10, 3) := by decide +kernel
theorem dK0_suggest_11 : decode cK0_suggest 11 = .ok (.iload_n 2, 1) := by decide +kernel
theorem dK0_suggest_12 : decode cK0_suggest 12 = .ok (.invokestatic 65, 3) := by decide +kernel
theorem dK0_suggest_15 : decode cK0_suggest 15 = .ok (.ifCond .ne 5, 3) := by decide +kernel
theorem dK0_suggest_18 : decode cK0_suggest 18 = .ok (.iconst (-1), 1) := by decide +kernel
theorem dK0_suggest_19 : decode cK0_suggest 19 = .ok (.ireturn, 1) := by decide +kernel
theorem dK0_suggest_20 : decode cK0_suggest 20 = .ok (.aload_n 0, 1) := by decide +kernel
theorem dK0_suggest_21 : decode cK0_suggest 21 = .ok (.getfield 22, 3) := by decide +kernel
theorem dK0_suggest_24 : decode cK0_suggest 24 = .ok (.aload_n 0, 1) := by decide +kernel
theorem dK0_suggest_25 : decode cK0_suggest 25 = .ok (.getfield 12, 3) := by decide +kernel
theorem dK0_suggest_28 : decode cK0_suggest 28 = .ok (.iload_n 1, 1) := by decide +kernel
theorem dK0_suggest_29 : decode cK0_suggest 29 = .ok (.iload_n 2, 1) := by decide +kernel
theorem dK0_suggest_30 : decode cK0_suggest 30 = .ok (.invokevirtual 117, 3) := by decide +kernel
theorem dK0_suggest_33 : decode cK0_suggest 33 = .ok (.ifCond .ne 6, 3) := by decide +kernel
theorem dK0_suggest_36 : decode cK0_suggest 36 = .ok (.bipush (-2), 2) := by decide +kernel
theorem dK0_suggest_38 : decode cK0_suggest 38 = .ok (.ireturn, 1) := by decide +kernel
theorem dK0_suggest_39 : decode cK0_suggest 39 = .ok (.aload_n 0, 1) := by decide +kernel
theorem dK0_suggest_40 : decode cK0_suggest 40 = .ok (.getfield 29, 3) := by decide +kernel
theorem dK0_suggest_43 : decode cK0_suggest 43 = .ok (.getfield 121, 3) := by decide +kernel
theorem dK0_suggest_46 : decode cK0_suggest 46 = .ok (.istore_n 3, 1) := by decide +kernel
theorem dK0_suggest_47 : decode cK0_suggest 47 = .ok (.aload_n 0, 1) := by decide +kernel
theorem dK0_suggest_48 : decode cK0_suggest 48 = .ok (.getfield 22, 3) := by decide +kernel
theorem dK0_suggest_51 : decode cK0_suggest 51 = .ok (.getfield 122, 3) := by decide +kernel
theorem dK0_suggest_54 : decode cK0_suggest 54 = .ok (.iload_n 1, 1) := by decide +kernel
theorem dK0_suggest_55 : decode cK0_suggest 55 = .ok (.iaload, 1) := by decide +kernel
theorem dK0_suggest_56 : decode cK0_suggest 56 = .ok (.istore 4, 2) := by decide +kernel
theorem dK0_suggest_58 : decode cK0_suggest 58 = .ok (.aload_n 0, 1) := by decide +kernel
theorem dK0_suggest_59 : decode cK0_suggest 59 = .ok (.getfield 12, 3) := by decide +kernel
theorem dK0_suggest_62 : decode cK0_suggest 62 = .ok (.iload_n 2, 1) := by decide +kernel
theorem dK0_suggest_63 : decode cK0_suggest 63 = .ok (.iconst 0, 1) := by decide +kernel
theorem dK0_suggest_64 : decode cK0_suggest 64 = .ok (.iload 4, 2) := by decide +kernel
theorem dK0_suggest_66 : decode cK0_suggest 66 = .ok (.invokevirtual 126, 3) := by decide +kernel
theorem dK0_suggest_69 : decode cK0_suggest 69 = .ok (.ifCond .eq 12, 3) := by decide +kernel
theorem dK0_suggest_72 : decode cK0_suggest 72 = .ok (.aload_n 0, 1) := by decide +kernel
theorem dK0_suggest_73 : decode cK0_suggest 73 = .ok (.iconst 0, 1) := by decide +kernel
theorem dK0_suggest_74 : decode cK0_suggest 74 = .ok (.iload_n 2, 1) := by decide +kernel
theorem dK0_suggest_75 : decode cK0_suggest 75 = .ok (.iconst 0, 1) := by decide +kernel
theorem dK0_suggest_76 : decode cK0_suggest 76 = .ok (.iload 4, 2) := by decide +kernel
theorem dK0_suggest_78 : decode cK0_suggest 78 = .ok (.invokevirtual 128, 3) := by decide +kernel
theorem dK0_suggest_81 : decode cK0_suggest 81 = .ok (.iconst 0, 1) := by decide +kernel
theorem dK0_suggest_82 : decode cK0_suggest 82 = .ok (.istore 5, 2) := by decide +kernel
theorem dK0_suggest_84 : decode cK0_suggest 84 = .ok (.iload 5, 2) := by decide +kernel
theorem dK0_suggest_86 : decode cK0_suggest 86 = .ok (.bipush 12, 2) := by decide +kernel
theorem dK0_suggest_88 : decode cK0_suggest 88 = .ok (.if_icmp .ge 17, 3) := by decide +kernel
theorem dK0_suggest_91 : decode cK0_suggest 91 = .ok (.aload_n 0, 1) := by decide +kernel
theorem dK0_suggest_92 : decode cK0_suggest 92 = .ok (.iload_n 1, 1) := by decide +kernel
theorem dK0_suggest_93 : decode cK0_suggest 93 = .ok (.iload_n 2, 1) := by decide +kernel
theorem dK0_suggest_94 : decode cK0_suggest 94 = .ok (.iload 5, 2) := by decide +kernel
theorem dK0_suggest_96 : decode cK0_suggest 96 = .ok (.invokevirtual 132, 3) := by decide +kernel
theorem dK0_suggest_99 : decode cK0_suggest 99 = .ok (.iinc 5 1, 3) := by decide +kernel
theorem dK0_suggest_102 : decode cK0_suggest 102 = .ok (.goto (-18), 3) := by decide +kernel
theorem dK0_suggest_105 : decode cK0_suggest 105 = .ok (.aload_n 0, 1) := by decide +kernel
theorem dK0_suggest_106 : decode cK0_suggest 106 = .ok (.getfield 29, 3) := by decide +kernel
theorem dK0_suggest_109 : decode cK0_suggest 109 = .ok (.getfield 121, 3) := by decide +kernel
theorem dK0_suggest_112 : decode cK0_suggest 112 = .ok (.iload_n 3, 1) := by decide +kernel
theorem dK0_suggest_113 : decode cK0_suggest 113 = .ok (.isub, 1) := by decide +kernel
theorem dK0_suggest_114 : decode cK0_suggest 114 = .ok (.ireturn, 1) := by decide +kernel
theorem dK2_has_0 : decode cK2_has 0 = .ok (.iload_n 1, 1) := by decide +kernel
theorem dK2_has_1 : decode cK2_has 1 = .ok (.ifCond .lt 15, 3) := by decide +kernel
theorem dK2_has_4 : decode cK2_has 4 = .ok (.iload_n 1, 1) := by decide +kernel
theorem dK2_has_5 : decode cK2_has 5 = .ok (.aload_n 0, 1) := by decide +kernel
theorem dK2_has_6 : decode cK2_has 6 = .ok (.getfield 24, 3) := by decide +kernel
theorem dK2_has_9 : decode cK2_has 9 = .ok (.if_icmp .ge 7, 3) := by decide +kernel
theorem dK2_has_12 : decode cK2_has 12 = .ok (.iconst 1, 1) := by decide +kernel
theorem dK2_has_13 : decode cK2_has 13 = .ok (.goto 4, 3) := by decide +kernel
theorem dK2_has_16 : decode cK2_has 16 = .ok (.iconst 0, 1) := by decide +kernel
theorem dK2_has_17 : decode cK2_has 17 = .ok (.ireturn, 1) := by decide +kernel
theorem dK2_fails_0 : decode cK2_fails 0 = .ok (.aload_n 1, 1) := by decide +kernel
theorem dK2_fails_1 : decode cK2_fails 1 = .ok (.iload_n 3, 1) := by decide +kernel
theorem dK2_fails_2 : decode cK2_fails 2 = .ok (.aload_n 0, 1) := by decide +kernel
theorem dK2_fails_3 : decode cK2_fails 3 = .ok (.getfield 15, 3) := by decide +kernel
theorem dK2_fails_6 : decode cK2_fails 6 = .ok (.iload_n 2, 1) := by decide +kernel
theorem dK2_fails_7 : decode cK2_fails 7 = .ok (.iaload, 1) := by decide +kernel
theorem dK2_fails_8 : decode cK2_fails 8 = .ok (.invokevirtual 28, 3) := by decide +kernel
theorem dK2_fails_11 : decode cK2_fails 11 = .ok (.ifCond .eq 17, 3) := by decide +kernel
theorem dK2_fails_14 : decode cK2_fails 14 = .ok (.aload_n 0, 1) := by decide +kernel
theorem dK2_fails_15 : decode cK2_fails 15 = .ok (.aload_n 1, 1) := by decide +kernel
theorem dK2_fails_16 : decode cK2_fails 16 = .ok (.iload_n 2, 1) := by decide +kernel
theorem dK2_fails_17 : decode cK2_fails 17 = .ok (.iload_n 3, 1) := by decide +kernel
theorem dK2_fails_18 : decode cK2_fails 18 = .ok (.invokevirtual 34, 3) := by decide +kernel
theorem dK2_fails_21 : decode cK2_fails 21 = .ok (.ifCond .ne 7, 3) := by decide +kernel
theorem dK2_fails_24 : decode cK2_fails 24 = .ok (.iconst 1, 1) := by decide +kernel
theorem dK2_fails_25 : decode cK2_fails 25 = .ok (.goto 4, 3) := by decide +kernel
theorem dK2_fails_28 : decode cK2_fails 28 = .ok (.iconst 0, 1) := by decide +kernel
theorem dK2_fails_29 : decode cK2_fails 29 = .ok (.ireturn, 1) := by decide +kernel
theorem dK0_offer_0 : decode cK0_offer 0 = .ok (.aload_n 0, 1) := by decide +kernel
theorem dK0_offer_1 : decode cK0_offer 1 = .ok (.getfield 29, 3) := by decide +kernel
theorem dK0_offer_4 : decode cK0_offer 4 = .ok (.iload_n 1, 1) := by decide +kernel
theorem dK0_offer_5 : decode cK0_offer 5 = .ok (.iload_n 2, 1) := by decide +kernel
theorem dK0_offer_6 : decode cK0_offer 6 = .ok (.iload_n 3, 1) := by decide +kernel
theorem dK0_offer_7 : decode cK0_offer 7 = .ok (.iload 4, 2) := by decide +kernel
theorem dK0_offer_9 : decode cK0_offer 9 = .ok (.invokestatic 108, 3) := by decide +kernel
theorem dK0_offer_12 : decode cK0_offer 12 = .ok (.iconst 1, 1) := by decide +kernel
theorem dK0_offer_13 : decode cK0_offer 13 = .ok (.invokevirtual 111, 3) := by decide +kernel
theorem dK0_offer_16 : decode cK0_offer 16 = .ok (.pop, 1) := by decide +kernel
theorem dK0_offer_17 : decode cK0_offer 17 = .ok (.return_, 1) := by decide +kernel
theorem dK0_offerAbout_0 : decode cK0_offerAbout 0 = .ok (.aload_n 0, 1) := by decide +kernel
theorem dK0_offerAbout_1 : decode cK0_offerAbout 1 = .ok (.getfield 22, 3) := by decide +kernel
theorem dK0_offerAbout_4 : decode cK0_offerAbout 4 = .ok (.getfield 210, 3) := by decide +kernel
theorem dK0_offerAbout_7 : decode cK0_offerAbout 7 = .ok (.iload_n 1, 1) := by decide +kernel
theorem dK0_offerAbout_8 : decode cK0_offerAbout 8 = .ok (.iaload, 1) := by decide +kernel
theorem dK0_offerAbout_9 : decode cK0_offerAbout 9 = .ok (.istore 4, 2) := by decide +kernel
theorem dK0_offerAbout_11 : decode cK0_offerAbout 11 = .ok (.aload_n 0, 1) := by decide +kernel
theorem dK0_offerAbout_12 : decode cK0_offerAbout 12 = .ok (.getfield 22, 3) := by decide +kernel
theorem dK0_offerAbout_15 : decode cK0_offerAbout 15 = .ok (.getfield 213, 3) := by decide +kernel
theorem dK0_offerAbout_18 : decode cK0_offerAbout 18 = .ok (.iload_n 1, 1) := by decide +kernel
theorem dK0_offerAbout_19 : decode cK0_offerAbout 19 = .ok (.iaload, 1) := by decide +kernel
theorem dK0_offerAbout_20 : decode cK0_offerAbout 20 = .ok (.istore 5, 2) := by decide +kernel
theorem dK0_offerAbout_22 : decode cK0_offerAbout 22 = .ok (.aload_n 0, 1) := by decide +kernel
theorem dK0_offerAbout_23 : decode cK0_offerAbout 23 = .ok (.getfield 12, 3) := by decide +kernel
theorem dK0_offerAbout_26 : decode cK0_offerAbout 26 = .ok (.iload_n 2, 1) := by decide +kernel
theorem dK0_offerAbout_27 : decode cK0_offerAbout 27 = .ok (.iload 4, 2) := by decide +kernel
theorem dK0_offerAbout_29 : decode cK0_offerAbout 29 = .ok (.iload_n 3, 1) := by decide +kernel
theorem dK0_offerAbout_30 : decode cK0_offerAbout 30 = .ok (.invokevirtual 126, 3) := by decide +kernel
theorem dK0_offerAbout_33 : decode cK0_offerAbout 33 = .ok (.istore 6, 2) := by decide +kernel
theorem dK0_offerAbout_35 : decode cK0_offerAbout 35 = .ok (.aload_n 0, 1) := by decide +kernel
theorem dK0_offerAbout_36 : decode cK0_offerAbout 36 = .ok (.getfield 22, 3) := by decide +kernel
theorem dK0_offerAbout_39 : decode cK0_offerAbout 39 = .ok (.getfield 216, 3) := by decide +kernel
theorem dK0_offerAbout_42 : decode cK0_offerAbout 42 = .ok (.iload_n 1, 1) := by decide +kernel
theorem dK0_offerAbout_43 : decode cK0_offerAbout 43 = .ok (.iaload, 1) := by decide +kernel
theorem dK0_offerAbout_44 : decode cK0_offerAbout 44 = .ok (.tableswitch 179 0 4 #[36, 53, 70, 109, 132], 36) := by decide +kernel
theorem dK0_offerAbout_80 : decode cK0_offerAbout 80 = .ok (.iload 6, 2) := by decide +kernel
theorem dK0_offerAbout_82 : decode cK0_offerAbout 82 = .ok (.ifCond .ne 178, 3) := by decide +kernel
theorem dK0_offerAbout_85 : decode cK0_offerAbout 85 = .ok (.aload_n 0, 1) := by decide +kernel
theorem dK0_offerAbout_86 : decode cK0_offerAbout 86 = .ok (.iconst 1, 1) := by decide +kernel
theorem dK0_offerAbout_87 : decode cK0_offerAbout 87 = .ok (.iload_n 2, 1) := by decide +kernel
theorem dK0_offerAbout_88 : decode cK0_offerAbout 88 = .ok (.iload 4, 2) := by decide +kernel
theorem dK0_offerAbout_90 : decode cK0_offerAbout 90 = .ok (.iload_n 3, 1) := by decide +kernel
theorem dK0_offerAbout_91 : decode cK0_offerAbout 91 = .ok (.invokevirtual 128, 3) := by decide +kernel
theorem dK0_offerAbout_94 : decode cK0_offerAbout 94 = .ok (.goto 166, 3) := by decide +kernel
theorem dK0_offerAbout_97 : decode cK0_offerAbout 97 = .ok (.iload 6, 2) := by decide +kernel
theorem dK0_offerAbout_99 : decode cK0_offerAbout 99 = .ok (.ifCond .eq 161, 3) := by decide +kernel
theorem dK0_offerAbout_102 : decode cK0_offerAbout 102 = .ok (.aload_n 0, 1) := by decide +kernel
theorem dK0_offerAbout_103 : decode cK0_offerAbout 103 = .ok (.iconst 0, 1) := by decide +kernel
theorem dK0_offerAbout_104 : decode cK0_offerAbout 104 = .ok (.iload_n 2, 1) := by decide +kernel
theorem dK0_offerAbout_105 : decode cK0_offerAbout 105 = .ok (.iload 4, 2) := by decide +kernel
theorem dK0_offerAbout_107 : decode cK0_offerAbout 107 = .ok (.iload_n 3, 1) := by decide +kernel
theorem dK0_offerAbout_108 : decode cK0_offerAbout 108 = .ok (.invokevirtual 128, 3) := by decide +kernel
theorem dK0_offerAbout_111 : decode cK0_offerAbout 111 = .ok (.goto 149, 3) := by decide +kernel
theorem dK0_offerAbout_114 : decode cK0_offerAbout 114 = .ok (.iload 6, 2) := by decide +kernel
theorem dK0_offerAbout_116 : decode cK0_offerAbout 116 = .ok (.ifCond .eq 144, 3) := by decide +kernel
theorem dK0_offerAbout_119 : decode cK0_offerAbout 119 = .ok (.aload_n 0, 1) := by decide +kernel
theorem dK0_offerAbout_120 : decode cK0_offerAbout 120 = .ok (.getfield 12, 3) := by decide +kernel
theorem dK0_offerAbout_123 : decode cK0_offerAbout 123 = .ok (.iload_n 3, 1) := by decide +kernel
theorem dK0_offerAbout_124 : decode cK0_offerAbout 124 = .ok (.iload 5, 2) := by decide +kernel
theorem dK0_offerAbout_126 : decode cK0_offerAbout 126 = .ok (.invokevirtual 97, 3) := by decide +kernel
theorem dK0_offerAbout_129 : decode cK0_offerAbout 129 = .ok (.ifCond .ne 131, 3) := by decide +kernel
theorem dK0_offerAbout_132 : decode cK0_offerAbout 132 = .ok (.aload_n 0, 1) := by decide +kernel
theorem dK0_offerAbout_133 : decode cK0_offerAbout 133 = .ok (.iconst 0, 1) := by decide +kernel
theorem dK0_offerAbout_134 : decode cK0_offerAbout 134 = .ok (.iload_n 2, 1) := by decide +kernel
theorem dK0_offerAbout_135 : decode cK0_offerAbout 135 = .ok (.iload 4, 2) := by decide +kernel
theorem dK0_offerAbout_137 : decode cK0_offerAbout 137 = .ok (.iload_n 3, 1) := by decide +kernel
theorem dK0_offerAbout_138 : decode cK0_offerAbout 138 = .ok (.invokevirtual 128, 3) := by decide +kernel
theorem dK0_offerAbout_141 : decode cK0_offerAbout 141 = .ok (.aload_n 0, 1) := by decide +kernel
theorem dK0_offerAbout_142 : decode cK0_offerAbout 142 = .ok (.iconst 1, 1) := by decide +kernel
theorem dK0_offerAbout_143 : decode cK0_offerAbout 143 = .ok (.iload_n 3, 1) := by decide +kernel
theorem dK0_offerAbout_144 : decode cK0_offerAbout 144 = .ok (.iconst 0, 1) := by decide +kernel
theorem dK0_offerAbout_145 : decode cK0_offerAbout 145 = .ok (.iload 5, 2) := by decide +kernel
theorem dK0_offerAbout_147 : decode cK0_offerAbout 147 = .ok (.invokevirtual 128, 3) := by decide +kernel
theorem dK0_offerAbout_150 : decode cK0_offerAbout 150 = .ok (.goto 110, 3) := by decide +kernel
theorem dK0_offerAbout_153 : decode cK0_offerAbout 153 = .ok (.iload 6, 2) := by decide +kernel
theorem dK0_offerAbout_155 : decode cK0_offerAbout 155 = .ok (.ifCond .eq 105, 3) := by decide +kernel
theorem dK0_offerAbout_158 : decode cK0_offerAbout 158 = .ok (.iload_n 3, 1) := by decide +kernel
theorem dK0_offerAbout_159 : decode cK0_offerAbout 159 = .ok (.iload 5, 2) := by decide +kernel
theorem dK0_offerAbout_161 : decode cK0_offerAbout 161 = .ok (.if_icmp .ne 99, 3) := by decide +kernel
theorem dK0_offerAbout_164 : decode cK0_offerAbout 164 = .ok (.aload_n 0, 1) := by decide +kernel
theorem dK0_offerAbout_165 : decode cK0_offerAbout 165 = .ok (.iconst 0, 1) := by decide +kernel
theorem dK0_offerAbout_166 : decode cK0_offerAbout 166 = .ok (.iload_n 2, 1) := by decide +kernel
theorem dK0_offerAbout_167 : decode cK0_offerAbout 167 = .ok (.iload 4, 2) := by decide +kernel
theorem dK0_offerAbout_169 : decode cK0_offerAbout 169 = .ok (.iload_n 3, 1) := by decide +kernel
theorem dK0_offerAbout_170 : decode cK0_offerAbout 170 = .ok (.invokevirtual 128, 3) := by decide +kernel
theorem dK0_offerAbout_173 : decode cK0_offerAbout 173 = .ok (.goto 87, 3) := by decide +kernel
theorem dK0_offerAbout_176 : decode cK0_offerAbout 176 = .ok (.iload 6, 2) := by decide +kernel
theorem dK0_offerAbout_178 : decode cK0_offerAbout 178 = .ok (.aload_n 0, 1) := by decide +kernel
theorem dK0_offerAbout_179 : decode cK0_offerAbout 179 = .ok (.getfield 12, 3) := by decide +kernel
theorem dK0_offerAbout_182 : decode cK0_offerAbout 182 = .ok (.iload_n 2, 1) := by decide +kernel
theorem dK0_offerAbout_183 : decode cK0_offerAbout 183 = .ok (.iload 5, 2) := by decide +kernel
theorem dK0_offerAbout_185 : decode cK0_offerAbout 185 = .ok (.iload_n 3, 1) := by decide +kernel
theorem dK0_offerAbout_186 : decode cK0_offerAbout 186 = .ok (.invokevirtual 126, 3) := by decide +kernel
theorem dK0_offerAbout_189 : decode cK0_offerAbout 189 = .ok (.if_icmp .eq 71, 3) := by decide +kernel
theorem dK0_offerAbout_192 : decode cK0_offerAbout 192 = .ok (.aload_n 0, 1) := by decide +kernel
theorem dK0_offerAbout_193 : decode cK0_offerAbout 193 = .ok (.iload 6, 2) := by decide +kernel
theorem dK0_offerAbout_195 : decode cK0_offerAbout 195 = .ok (.ifCond .ne 7, 3) := by decide +kernel
theorem dK0_offerAbout_198 : decode cK0_offerAbout 198 = .ok (.iconst 1, 1) := by decide +kernel
theorem dK0_offerAbout_199 : decode cK0_offerAbout 199 = .ok (.goto 4, 3) := by decide +kernel
theorem dK0_offerAbout_202 : decode cK0_offerAbout 202 = .ok (.iconst 0, 1) := by decide +kernel
theorem dK0_offerAbout_203 : decode cK0_offerAbout 203 = .ok (.iload_n 2, 1) := by decide +kernel
theorem dK0_offerAbout_204 : decode cK0_offerAbout 204 = .ok (.iload 4, 2) := by decide +kernel
theorem dK0_offerAbout_206 : decode cK0_offerAbout 206 = .ok (.iload_n 3, 1) := by decide +kernel
theorem dK0_offerAbout_207 : decode cK0_offerAbout 207 = .ok (.invokevirtual 128, 3) := by decide +kernel
theorem dK0_offerAbout_210 : decode cK0_offerAbout 210 = .ok (.aload_n 0, 1) := by decide +kernel
theorem dK0_offerAbout_211 : decode cK0_offerAbout 211 = .ok (.iload 6, 2) := by decide +kernel
theorem dK0_offerAbout_213 : decode cK0_offerAbout 213 = .ok (.iload_n 2, 1) := by decide +kernel
theorem dK0_offerAbout_214 : decode cK0_offerAbout 214 = .ok (.iload 5, 2) := by decide +kernel
theorem dK0_offerAbout_216 : decode cK0_offerAbout 216 = .ok (.iload_n 3, 1) := by decide +kernel
theorem dK0_offerAbout_217 : decode cK0_offerAbout 217 = .ok (.invokevirtual 128, 3) := by decide +kernel
theorem dK0_offerAbout_220 : decode cK0_offerAbout 220 = .ok (.goto 40, 3) := by decide +kernel
theorem dK0_offerAbout_223 : decode cK0_offerAbout 223 = .ok (.iload 6, 2) := by decide +kernel
theorem dK0_offerAbout_225 : decode cK0_offerAbout 225 = .ok (.ifCond .eq 35, 3) := by decide +kernel
theorem dK0_offerAbout_228 : decode cK0_offerAbout 228 = .ok (.aload_n 0, 1) := by decide +kernel
theorem dK0_offerAbout_229 : decode cK0_offerAbout 229 = .ok (.getfield 12, 3) := by decide +kernel
theorem dK0_offerAbout_232 : decode cK0_offerAbout 232 = .ok (.iload_n 2, 1) := by decide +kernel
theorem dK0_offerAbout_233 : decode cK0_offerAbout 233 = .ok (.iload 5, 2) := by decide +kernel
theorem dK0_offerAbout_235 : decode cK0_offerAbout 235 = .ok (.iload_n 3, 1) := by decide +kernel
theorem dK0_offerAbout_236 : decode cK0_offerAbout 236 = .ok (.invokevirtual 126, 3) := by decide +kernel
theorem dK0_offerAbout_239 : decode cK0_offerAbout 239 = .ok (.ifCond .eq 21, 3) := by decide +kernel
theorem dK0_offerAbout_242 : decode cK0_offerAbout 242 = .ok (.aload_n 0, 1) := by decide +kernel
theorem dK0_offerAbout_243 : decode cK0_offerAbout 243 = .ok (.iconst 0, 1) := by decide +kernel
theorem dK0_offerAbout_244 : decode cK0_offerAbout 244 = .ok (.iload_n 2, 1) := by decide +kernel
theorem dK0_offerAbout_245 : decode cK0_offerAbout 245 = .ok (.iload 4, 2) := by decide +kernel
theorem dK0_offerAbout_247 : decode cK0_offerAbout 247 = .ok (.iload_n 3, 1) := by decide +kernel
theorem dK0_offerAbout_248 : decode cK0_offerAbout 248 = .ok (.invokevirtual 128, 3) := by decide +kernel
theorem dK0_offerAbout_251 : decode cK0_offerAbout 251 = .ok (.aload_n 0, 1) := by decide +kernel
theorem dK0_offerAbout_252 : decode cK0_offerAbout 252 = .ok (.iconst 0, 1) := by decide +kernel
theorem dK0_offerAbout_253 : decode cK0_offerAbout 253 = .ok (.iload_n 2, 1) := by decide +kernel
theorem dK0_offerAbout_254 : decode cK0_offerAbout 254 = .ok (.iload 5, 2) := by decide +kernel
theorem dK0_offerAbout_256 : decode cK0_offerAbout 256 = .ok (.iload_n 3, 1) := by decide +kernel
theorem dK0_offerAbout_257 : decode cK0_offerAbout 257 = .ok (.invokevirtual 128, 3) := by decide +kernel
theorem dK0_offerAbout_260 : decode cK0_offerAbout 260 = .ok (.return_, 1) := by decide +kernel
theorem dK0_clear_0 : decode cK0_clear 0 = .ok (.aload_n 0, 1) := by decide +kernel
theorem dK0_clear_1 : decode cK0_clear 1 = .ok (.getfield 29, 3) := by decide +kernel
theorem dK0_clear_4 : decode cK0_clear 4 = .ok (.getfield 121, 3) := by decide +kernel
theorem dK0_clear_7 : decode cK0_clear 7 = .ok (.istore_n 1, 1) := by decide +kernel
theorem dK0_clear_8 : decode cK0_clear 8 = .ok (.aload_n 0, 1) := by decide +kernel
theorem dK0_clear_9 : decode cK0_clear 9 = .ok (.getfield 29, 3) := by decide +kernel
theorem dK0_clear_12 : decode cK0_clear 12 = .ok (.invokevirtual 136, 3) := by decide +kernel
theorem dK0_clear_15 : decode cK0_clear 15 = .ok (.aload_n 0, 1) := by decide +kernel
theorem dK0_clear_16 : decode cK0_clear 16 = .ok (.getfield 36, 3) := by decide +kernel
theorem dK0_clear_19 : decode cK0_clear 19 = .ok (.invokevirtual 139, 3) := by decide +kernel
theorem dK0_clear_22 : decode cK0_clear 22 = .ok (.aload_n 0, 1) := by decide +kernel
theorem dK0_clear_23 : decode cK0_clear 23 = .ok (.iconst 0, 1) := by decide +kernel
theorem dK0_clear_24 : decode cK0_clear 24 = .ok (.putfield 47, 3) := by decide +kernel
theorem dK0_clear_27 : decode cK0_clear 27 = .ok (.iload_n 1, 1) := by decide +kernel
theorem dK0_clear_28 : decode cK0_clear 28 = .ok (.ireturn, 1) := by decide +kernel
theorem dK3_forget_0 : decode cK3_forget 0 = .ok (.aload_n 0, 1) := by decide +kernel
theorem dK3_forget_1 : decode cK3_forget 1 = .ok (.iconst 0, 1) := by decide +kernel
theorem dK3_forget_2 : decode cK3_forget 2 = .ok (.putfield 22, 3) := by decide +kernel
theorem dK3_forget_5 : decode cK3_forget 5 = .ok (.return_, 1) := by decide +kernel
theorem dK4_forget_0 : decode cK4_forget 0 = .ok (.aload_n 0, 1) := by decide +kernel
theorem dK4_forget_1 : decode cK4_forget 1 = .ok (.iconst 0, 1) := by decide +kernel
theorem dK4_forget_2 : decode cK4_forget 2 = .ok (.putfield 18, 3) := by decide +kernel
theorem dK4_forget_5 : decode cK4_forget 5 = .ok (.return_, 1) := by decide +kernel
theorem dK0_tries_0 : decode cK0_tries 0 = .ok (.iload_n 1, 1) := by decide +kernel
theorem dK0_tries_1 : decode cK0_tries 1 = .ok (.iconst 1, 1) := by decide +kernel
theorem dK0_tries_2 : decode cK0_tries 2 = .ok (.if_icmp .lt 10, 3) := by decide +kernel
theorem dK0_tries_5 : decode cK0_tries 5 = .ok (.iload_n 1, 1) := by decide +kernel
theorem dK0_tries_6 : decode cK0_tries 6 = .ok (.sipush 5000, 3) := by decide +kernel
theorem dK0_tries_9 : decode cK0_tries 9 = .ok (.if_icmp .le 5, 3) := by decide +kernel
theorem dK0_tries_12 : decode cK0_tries 12 = .ok (.iconst (-1), 1) := by decide +kernel
theorem dK0_tries_13 : decode cK0_tries 13 = .ok (.ireturn, 1) := by decide +kernel
theorem dK0_tries_14 : decode cK0_tries 14 = .ok (.aload_n 0, 1) := by decide +kernel
theorem dK0_tries_15 : decode cK0_tries 15 = .ok (.iload_n 1, 1) := by decide +kernel
theorem dK0_tries_16 : decode cK0_tries 16 = .ok (.putfield 51, 3) := by decide +kernel
theorem dK0_tries_19 : decode cK0_tries 19 = .ok (.iload_n 1, 1) := by decide +kernel
theorem dK0_tries_20 : decode cK0_tries 20 = .ok (.ireturn, 1) := by decide +kernel
theorem dK0_find_0 : decode cK0_find 0 = .ok (.aload_n 0, 1) := by decide +kernel
theorem dK0_find_1 : decode cK0_find 1 = .ok (.getfield 22, 3) := by decide +kernel
theorem dK0_find_4 : decode cK0_find 4 = .ok (.iload_n 1, 1) := by decide +kernel
theorem dK0_find_5 : decode cK0_find 5 = .ok (.invokevirtual 114, 3) := by decide +kernel
theorem dK0_find_8 : decode cK0_find 8 = .ok (.ifCond .eq 21, 3) := by decide +kernel
theorem dK0_find_11 : decode cK0_find 11 = .ok (.iload_n 2, 1) := by decide +kernel
theorem dK0_find_12 : decode cK0_find 12 = .ok (.invokestatic 65, 3) := by decide +kernel
theorem dK0_find_15 : decode cK0_find 15 = .ok (.ifCond .eq 14, 3) := by decide +kernel
theorem dK0_find_18 : decode cK0_find 18 = .ok (.iload_n 3, 1) := by decide +kernel
theorem dK0_find_19 : decode cK0_find 19 = .ok (.iconst 1, 1) := by decide +kernel
theorem dK0_find_20 : decode cK0_find 20 = .ok (.if_icmp .lt 9, 3) := by decide +kernel
theorem dK0_find_23 : decode cK0_find 23 = .ok (.iload_n 3, 1) := by decide +kernel
theorem dK0_find_24 : decode cK0_find 24 = .ok (.bipush 12, 2) := by decide +kernel
theorem dK0_find_26 : decode cK0_find 26 = .ok (.if_icmp .le 5, 3) := by decide +kernel
theorem dK0_find_29 : decode cK0_find 29 = .ok (.iconst (-1), 1) := by decide +kernel
theorem dK0_find_30 : decode cK0_find 30 = .ok (.ireturn, 1) := by decide +kernel
theorem dK0_find_31 : decode cK0_find 31 = .ok (.aload_n 0, 1) := by decide +kernel
theorem dK0_find_32 : decode cK0_find 32 = .ok (.getfield 22, 3) := by decide +kernel
theorem dK0_find_35 : decode cK0_find 35 = .ok (.aload_n 0, 1) := by decide +kernel
theorem dK0_find_36 : decode cK0_find 36 = .ok (.getfield 12, 3) := by decide +kernel
theorem dK0_find_39 : decode cK0_find 39 = .ok (.iload_n 1, 1) := by decide +kernel
theorem dK0_find_40 : decode cK0_find 40 = .ok (.iload_n 2, 1) := by decide +kernel
theorem dK0_find_41 : decode cK0_find 41 = .ok (.invokevirtual 117, 3) := by decide +kernel
theorem dK0_find_44 : decode cK0_find 44 = .ok (.ifCond .ne 6, 3) := by decide +kernel
theorem dK0_find_47 : decode cK0_find 47 = .ok (.bipush (-2), 2) := by decide +kernel
theorem dK0_find_49 : decode cK0_find 49 = .ok (.ireturn, 1) := by decide +kernel
theorem dK0_find_50 : decode cK0_find 50 = .ok (.aload_n 0, 1) := by decide +kernel
theorem dK0_find_51 : decode cK0_find 51 = .ok (.iload_n 1, 1) := by decide +kernel
theorem dK0_find_52 : decode cK0_find 52 = .ok (.iload_n 2, 1) := by decide +kernel
theorem dK0_find_53 : decode cK0_find 53 = .ok (.iload_n 3, 1) := by decide +kernel
theorem dK0_find_54 : decode cK0_find 54 = .ok (.aload_n 0, 1) := by decide +kernel
theorem dK0_find_55 : decode cK0_find 55 = .ok (.getfield 29, 3) := by decide +kernel
theorem dK0_find_58 : decode cK0_find 58 = .ok (.getfield 121, 3) := by decide +kernel
theorem dK0_find_61 : decode cK0_find 61 = .ok (.invokestatic 140, 3) := by decide +kernel
theorem dK0_find_64 : decode cK0_find 64 = .ok (.invokevirtual 146, 3) := by decide +kernel
theorem dK0_find_67 : decode cK0_find 67 = .ok (.aload_n 0, 1) := by decide +kernel
theorem dK0_find_68 : decode cK0_find 68 = .ok (.getfield 36, 3) := by decide +kernel
theorem dK0_find_71 : decode cK0_find 71 = .ok (.getfield 149, 3) := by decide +kernel
theorem dK0_find_74 : decode cK0_find 74 = .ok (.ireturn, 1) := by decide +kernel
theorem dK0_findSets_0 : decode cK0_findSets 0 = .ok (.aload_n 0, 1) := by decide +kernel
theorem dK0_findSets_1 : decode cK0_findSets 1 = .ok (.getfield 36, 3) := by decide +kernel
theorem dK0_findSets_4 : decode cK0_findSets 4 = .ok (.invokevirtual 139, 3) := by decide +kernel
theorem dK0_findSets_7 : decode cK0_findSets 7 = .ok (.aload_n 0, 1) := by decide +kernel
theorem dK0_findSets_8 : decode cK0_findSets 8 = .ok (.iconst 0, 1) := by decide +kernel
theorem dK0_findSets_9 : decode cK0_findSets 9 = .ok (.putfield 54, 3) := by decide +kernel
theorem dK0_findSets_12 : decode cK0_findSets 12 = .ok (.aload_n 0, 1) := by decide +kernel
theorem dK0_findSets_13 : decode cK0_findSets 13 = .ok (.iconst 0, 1) := by decide +kernel
theorem dK0_findSets_14 : decode cK0_findSets 14 = .ok (.putfield 57, 3) := by decide +kernel
theorem dK0_findSets_17 : decode cK0_findSets 17 = .ok (.iconst 0, 1) := by decide +kernel
theorem dK0_findSets_18 : decode cK0_findSets 18 = .ok (.aload_n 0, 1) := by decide +kernel
theorem dK0_findSets_19 : decode cK0_findSets 19 = .ok (.getfield 29, 3) := by decide +kernel
theorem dK0_findSets_22 : decode cK0_findSets 22 = .ok (.getfield 121, 3) := by decide +kernel
theorem dK0_findSets_25 : decode cK0_findSets 25 = .ok (.iload_n 3, 1) := by decide +kernel
theorem dK0_findSets_26 : decode cK0_findSets 26 = .ok (.invokestatic 223, 3) := by decide +kernel
theorem dK0_findSets_29 : decode cK0_findSets 29 = .ok (.istore 4, 2) := by decide +kernel
theorem dK0_findSets_31 : decode cK0_findSets 31 = .ok (.iconst 0, 1) := by decide +kernel
theorem dK0_findSets_32 : decode cK0_findSets 32 = .ok (.istore 5, 2) := by decide +kernel
theorem dK0_findSets_34 : decode cK0_findSets 34 = .ok (.iload 5, 2) := by decide +kernel
theorem dK0_findSets_36 : decode cK0_findSets 36 = .ok (.sipush 4096, 3) := by decide +kernel
theorem dK0_findSets_39 : decode cK0_findSets 39 = .ok (.if_icmp .ge 117, 3) := by decide +kernel
theorem dK0_findSets_42 : decode cK0_findSets 42 = .ok (.iload 4, 2) := by decide +kernel
theorem dK0_findSets_44 : decode cK0_findSets 44 = .ok (.iconst (-1), 1) := by decide +kernel
theorem dK0_findSets_45 : decode cK0_findSets 45 = .ok (.if_icmp .eq 111, 3) := by decide +kernel
theorem dK0_findSets_48 : decode cK0_findSets 48 = .ok (.aload_n 0, 1) := by decide +kernel
theorem dK0_findSets_49 : decode cK0_findSets 49 = .ok (.getfield 36, 3) := by decide +kernel
theorem dK0_findSets_52 : decode cK0_findSets 52 = .ok (.iload 4, 2) := by decide +kernel
theorem dK0_findSets_54 : decode cK0_findSets 54 = .ok (.invokevirtual 226, 3) := by decide +kernel
theorem dK0_findSets_57 : decode cK0_findSets 57 = .ok (.ifCond .ne 78, 3) := by decide +kernel
theorem dK0_findSets_60 : decode cK0_findSets 60 = .ok (.aload_n 0, 1) := by decide +kernel
theorem dK0_findSets_61 : decode cK0_findSets 61 = .ok (.getfield 54, 3) := by decide +kernel
theorem dK0_findSets_64 : decode cK0_findSets 64 = .ok (.aload_n 0, 1) := by decide +kernel
theorem dK0_findSets_65 : decode cK0_findSets 65 = .ok (.getfield 51, 3) := by decide +kernel
theorem dK0_findSets_68 : decode cK0_findSets 68 = .ok (.if_icmp .lt 4, 3) := by decide +kernel
theorem dK0_findSets_71 : decode cK0_findSets 71 = .ok (.return_, 1) := by decide +kernel
theorem dK0_findSets_72 : decode cK0_findSets 72 = .ok (.aload_n 0, 1) := by decide +kernel
theorem dK0_findSets_73 : decode cK0_findSets 73 = .ok (.dup, 1) := by decide +kernel
theorem dK0_findSets_74 : decode cK0_findSets 74 = .ok (.getfield 54, 3) := by decide +kernel
theorem dK0_findSets_77 : decode cK0_findSets 77 = .ok (.iconst 1, 1) := by decide +kernel
theorem dK0_findSets_78 : decode cK0_findSets 78 = .ok (.iadd, 1) := by decide +kernel
theorem dK0_findSets_79 : decode cK0_findSets 79 = .ok (.putfield 54, 3) := by decide +kernel
theorem dK0_findSets_82 : decode cK0_findSets 82 = .ok (.aload_n 0, 1) := by decide +kernel
theorem dK0_findSets_83 : decode cK0_findSets 83 = .ok (.iload 4, 2) := by decide +kernel
theorem dK0_findSets_85 : decode cK0_findSets 85 = .ok (.invokevirtual 159, 3) := by decide +kernel
theorem dK0_findSets_88 : decode cK0_findSets 88 = .ok (.aload_n 0, 1) := by decide +kernel
theorem dK0_findSets_89 : decode cK0_findSets 89 = .ok (.getfield 22, 3) := by decide +kernel
theorem dK0_findSets_92 : decode cK0_findSets 92 = .ok (.aload_n 0, 1) := by decide +kernel
theorem dK0_findSets_93 : decode cK0_findSets 93 = .ok (.getfield 16, 3) := by decide +kernel
theorem dK0_findSets_96 : decode cK0_findSets 96 = .ok (.iload_n 1, 1) := by decide +kernel
theorem dK0_findSets_97 : decode cK0_findSets 97 = .ok (.iload_n 2, 1) := by decide +kernel
theorem dK0_findSets_98 : decode cK0_findSets 98 = .ok (.invokevirtual 117, 3) := by decide +kernel
theorem dK0_findSets_101 : decode cK0_findSets 101 = .ok (.ifCond .ne 21, 3) := by decide +kernel
theorem dK0_findSets_104 : decode cK0_findSets 104 = .ok (.aload_n 0, 1) := by decide +kernel
theorem dK0_findSets_105 : decode cK0_findSets 105 = .ok (.getfield 36, 3) := by decide +kernel
theorem dK0_findSets_108 : decode cK0_findSets 108 = .ok (.iload 4, 2) := by decide +kernel
theorem dK0_findSets_110 : decode cK0_findSets 110 = .ok (.aload_n 0, 1) := by decide +kernel
theorem dK0_findSets_111 : decode cK0_findSets 111 = .ok (.getfield 29, 3) := by decide +kernel
theorem dK0_findSets_114 : decode cK0_findSets 114 = .ok (.iload 4, 2) := by decide +kernel
theorem dK0_findSets_116 : decode cK0_findSets 116 = .ok (.invokevirtual 156, 3) := by decide +kernel
theorem dK0_findSets_119 : decode cK0_findSets 119 = .ok (.invokevirtual 229, 3) := by decide +kernel
theorem dK0_findSets_122 : decode cK0_findSets 122 = .ok (.aload_n 0, 1) := by decide +kernel
theorem dK0_findSets_123 : decode cK0_findSets 123 = .ok (.getfield 36, 3) := by decide +kernel
theorem dK0_findSets_126 : decode cK0_findSets 126 = .ok (.getfield 149, 3) := by decide +kernel
theorem dK0_findSets_129 : decode cK0_findSets 129 = .ok (.bipush 30, 2) := by decide +kernel
theorem dK0_findSets_131 : decode cK0_findSets 131 = .ok (.if_icmp .lt 4, 3) := by decide +kernel
theorem dK0_findSets_134 : decode cK0_findSets 134 = .ok (.return_, 1) := by decide +kernel
theorem dK0_findSets_135 : decode cK0_findSets 135 = .ok (.iload 4, 2) := by decide +kernel
theorem dK0_findSets_137 : decode cK0_findSets 137 = .ok (.aload_n 0, 1) := by decide +kernel
theorem dK0_findSets_138 : decode cK0_findSets 138 = .ok (.getfield 29, 3) := by decide +kernel
theorem dK0_findSets_141 : decode cK0_findSets 141 = .ok (.getfield 121, 3) := by decide +kernel
theorem dK0_findSets_144 : decode cK0_findSets 144 = .ok (.iload_n 3, 1) := by decide +kernel
theorem dK0_findSets_145 : decode cK0_findSets 145 = .ok (.invokestatic 223, 3) := by decide +kernel
theorem dK0_findSets_148 : decode cK0_findSets 148 = .ok (.istore 4, 2) := by decide +kernel
theorem dK0_findSets_150 : decode cK0_findSets 150 = .ok (.iinc 5 1, 3) := by decide +kernel
theorem dK0_findSets_153 : decode cK0_findSets 153 = .ok (.goto (-119), 3) := by decide +kernel
theorem dK0_findSets_156 : decode cK0_findSets 156 = .ok (.aload_n 0, 1) := by decide +kernel
theorem dK0_findSets_157 : decode cK0_findSets 157 = .ok (.iconst 1, 1) := by decide +kernel
theorem dK0_findSets_158 : decode cK0_findSets 158 = .ok (.putfield 57, 3) := by decide +kernel
theorem dK0_findSets_161 : decode cK0_findSets 161 = .ok (.return_, 1) := by decide +kernel
theorem dK0_nextSet_0 : decode cK0_nextSet 0 = .ok (.iconst 0, 1) := by decide +kernel
theorem dK0_nextSet_1 : decode cK0_nextSet 1 = .ok (.istore_n 3, 1) := by decide +kernel
theorem dK0_nextSet_2 : decode cK0_nextSet 2 = .ok (.iload_n 3, 1) := by decide +kernel
theorem dK0_nextSet_3 : decode cK0_nextSet 3 = .ok (.iload_n 1, 1) := by decide +kernel
theorem dK0_nextSet_4 : decode cK0_nextSet 4 = .ok (.if_icmp .ge 21, 3) := by decide +kernel
theorem dK0_nextSet_7 : decode cK0_nextSet 7 = .ok (.iload_n 0, 1) := by decide +kernel
theorem dK0_nextSet_8 : decode cK0_nextSet 8 = .ok (.iload_n 1, 1) := by decide +kernel
theorem dK0_nextSet_9 : decode cK0_nextSet 9 = .ok (.iconst 1, 1) := by decide +kernel
theorem dK0_nextSet_10 : decode cK0_nextSet 10 = .ok (.isub, 1) := by decide +kernel
theorem dK0_nextSet_11 : decode cK0_nextSet 11 = .ok (.iload_n 3, 1) := by decide +kernel
theorem dK0_nextSet_12 : decode cK0_nextSet 12 = .ok (.isub, 1) := by decide +kernel
theorem dK0_nextSet_13 : decode cK0_nextSet 13 = .ok (.invokestatic 180, 3) := by decide +kernel
theorem dK0_nextSet_16 : decode cK0_nextSet 16 = .ok (.ifCond .eq 9, 3) := by decide +kernel
theorem dK0_nextSet_19 : decode cK0_nextSet 19 = .ok (.iinc 3 1, 3) := by decide +kernel
theorem dK0_nextSet_22 : decode cK0_nextSet 22 = .ok (.goto (-20), 3) := by decide +kernel
theorem dK0_nextSet_25 : decode cK0_nextSet 25 = .ok (.iload_n 0, 1) := by decide +kernel
theorem dK0_nextSet_26 : decode cK0_nextSet 26 = .ok (.iconst 1, 1) := by decide +kernel
theorem dK0_nextSet_27 : decode cK0_nextSet 27 = .ok (.iload_n 1, 1) := by decide +kernel
theorem dK0_nextSet_28 : decode cK0_nextSet 28 = .ok (.iload_n 3, 1) := by decide +kernel
theorem dK0_nextSet_29 : decode cK0_nextSet 29 = .ok (.isub, 1) := by decide +kernel
theorem dK0_nextSet_30 : decode cK0_nextSet 30 = .ok (.ishl, 1) := by decide +kernel
theorem dK0_nextSet_31 : decode cK0_nextSet 31 = .ok (.iconst 1, 1) := by decide +kernel
theorem dK0_nextSet_32 : decode cK0_nextSet 32 = .ok (.isub, 1) := by decide +kernel
theorem dK0_nextSet_33 : decode cK0_nextSet 33 = .ok (.iand, 1) := by decide +kernel
theorem dK0_nextSet_34 : decode cK0_nextSet 34 = .ok (.istore 4, 2) := by decide +kernel
theorem dK0_nextSet_36 : decode cK0_nextSet 36 = .ok (.iload 4, 2) := by decide +kernel
theorem dK0_nextSet_38 : decode cK0_nextSet 38 = .ok (.ifCond .ne 20, 3) := by decide +kernel
theorem dK0_nextSet_41 : decode cK0_nextSet 41 = .ok (.iload_n 3, 1) := by decide +kernel
theorem dK0_nextSet_42 : decode cK0_nextSet 42 = .ok (.iload_n 2, 1) := by decide +kernel
theorem dK0_nextSet_43 : decode cK0_nextSet 43 = .ok (.if_icmp .ge 13, 3) := by decide +kernel
theorem dK0_nextSet_46 : decode cK0_nextSet 46 = .ok (.iconst 1, 1) := by decide +kernel
theorem dK0_nextSet_47 : decode cK0_nextSet 47 = .ok (.iload_n 3, 1) := by decide +kernel
theorem dK0_nextSet_48 : decode cK0_nextSet 48 = .ok (.iconst 1, 1) := by decide +kernel
theorem dK0_nextSet_49 : decode cK0_nextSet 49 = .ok (.iadd, 1) := by decide +kernel
theorem dK0_nextSet_50 : decode cK0_nextSet 50 = .ok (.ishl, 1) := by decide +kernel
theorem dK0_nextSet_51 : decode cK0_nextSet 51 = .ok (.iconst 1, 1) := by decide +kernel
theorem dK0_nextSet_52 : decode cK0_nextSet 52 = .ok (.isub, 1) := by decide +kernel
theorem dK0_nextSet_53 : decode cK0_nextSet 53 = .ok (.goto 4, 3) := by decide +kernel
theorem dK0_nextSet_56 : decode cK0_nextSet 56 = .ok (.iconst (-1), 1) := by decide +kernel
theorem dK0_nextSet_57 : decode cK0_nextSet 57 = .ok (.ireturn, 1) := by decide +kernel
theorem dK0_nextSet_58 : decode cK0_nextSet 58 = .ok (.bipush 31, 2) := by decide +kernel
end
section
theorem dK0_nextSet_60 : decode cK0_nextSet 60 = .ok (.iload 4, 2) := by decide +kernel
theorem dK0_nextSet_62 : decode cK0_nextSet 62 = .ok (.invokestatic 203, 3) := by decide +kernel
theorem dK0_nextSet_65 : decode cK0_nextSet 65 = .ok (.isub, 1) := by decide +kernel
theorem dK0_nextSet_66 : decode cK0_nextSet 66 = .ok (.istore 5, 2) := by decide +kernel
theorem dK0_nextSet_68 : decode cK0_nextSet 68 = .ok (.iconst 1, 1) := by decide +kernel
theorem dK0_nextSet_69 : decode cK0_nextSet 69 = .ok (.iload_n 3, 1) := by decide +kernel
theorem dK0_nextSet_70 : decode cK0_nextSet 70 = .ok (.iconst 1, 1) := by decide +kernel
theorem dK0_nextSet_71 : decode cK0_nextSet 71 = .ok (.iadd, 1) := by decide +kernel
theorem dK0_nextSet_72 : decode cK0_nextSet 72 = .ok (.ishl, 1) := by decide +kernel
theorem dK0_nextSet_73 : decode cK0_nextSet 73 = .ok (.iconst 1, 1) := by decide +kernel
theorem dK0_nextSet_74 : decode cK0_nextSet 74 = .ok (.isub, 1) := by decide +kernel
theorem dK0_nextSet_75 : decode cK0_nextSet 75 = .ok (.iload 5, 2) := by decide +kernel
theorem dK0_nextSet_77 : decode cK0_nextSet 77 = .ok (.iconst 1, 1) := by decide +kernel
theorem dK0_nextSet_78 : decode cK0_nextSet 78 = .ok (.iadd, 1) := by decide +kernel
theorem dK0_nextSet_79 : decode cK0_nextSet 79 = .ok (.ishl, 1) := by decide +kernel
theorem dK0_nextSet_80 : decode cK0_nextSet 80 = .ok (.istore 6, 2) := by decide +kernel
theorem dK0_nextSet_82 : decode cK0_nextSet 82 = .ok (.iload 4, 2) := by decide +kernel
theorem dK0_nextSet_84 : decode cK0_nextSet 84 = .ok (.iconst 1, 1) := by decide +kernel
theorem dK0_nextSet_85 : decode cK0_nextSet 85 = .ok (.iload 5, 2) := by decide +kernel
theorem dK0_nextSet_87 : decode cK0_nextSet 87 = .ok (.ishl, 1) := by decide +kernel
theorem dK0_nextSet_88 : decode cK0_nextSet 88 = .ok (.iconst (-1), 1) := by decide +kernel
theorem dK0_nextSet_89 : decode cK0_nextSet 89 = .ok (.ixor, 1) := by decide +kernel
theorem dK0_nextSet_90 : decode cK0_nextSet 90 = .ok (.iand, 1) := by decide +kernel
theorem dK0_nextSet_91 : decode cK0_nextSet 91 = .ok (.iload 6, 2) := by decide +kernel
theorem dK0_nextSet_93 : decode cK0_nextSet 93 = .ok (.ior, 1) := by decide +kernel
theorem dK0_nextSet_94 : decode cK0_nextSet 94 = .ok (.ireturn, 1) := by decide +kernel
theorem dJ2_numberOfLeadingZeros_0 : decode cJ2_numberOfLeadingZeros 0 = .ok (.iload_n 0, 1) := by decide +kernel
theorem dJ2_numberOfLeadingZeros_1 : decode cJ2_numberOfLeadingZeros 1 = .ok (.ifCond .gt 14, 3) := by decide +kernel
theorem dJ2_numberOfLeadingZeros_4 : decode cJ2_numberOfLeadingZeros 4 = .ok (.iload_n 0, 1) := by decide +kernel
theorem dJ2_numberOfLeadingZeros_5 : decode cJ2_numberOfLeadingZeros 5 = .ok (.ifCond .ne 8, 3) := by decide +kernel
theorem dJ2_numberOfLeadingZeros_8 : decode cJ2_numberOfLeadingZeros 8 = .ok (.bipush 32, 2) := by decide +kernel
theorem dJ2_numberOfLeadingZeros_10 : decode cJ2_numberOfLeadingZeros 10 = .ok (.goto 4, 3) := by decide +kernel
theorem dJ2_numberOfLeadingZeros_13 : decode cJ2_numberOfLeadingZeros 13 = .ok (.iconst 0, 1) := by decide +kernel
theorem dJ2_numberOfLeadingZeros_14 : decode cJ2_numberOfLeadingZeros 14 = .ok (.ireturn, 1) := by decide +kernel
theorem dJ2_numberOfLeadingZeros_15 : decode cJ2_numberOfLeadingZeros 15 = .ok (.bipush 31, 2) := by decide +kernel
theorem dJ2_numberOfLeadingZeros_17 : decode cJ2_numberOfLeadingZeros 17 = .ok (.istore_n 1, 1) := by decide +kernel
theorem dJ2_numberOfLeadingZeros_18 : decode cJ2_numberOfLeadingZeros 18 = .ok (.iload_n 0, 1) := by decide +kernel
theorem dJ2_numberOfLeadingZeros_19 : decode cJ2_numberOfLeadingZeros 19 = .ok (.ldc_w 264, 3) := by decide +kernel
theorem dJ2_numberOfLeadingZeros_22 : decode cJ2_numberOfLeadingZeros 22 = .ok (.if_icmp .lt 11, 3) := by decide +kernel
theorem dJ2_numberOfLeadingZeros_25 : decode cJ2_numberOfLeadingZeros 25 = .ok (.iinc 1 (-16), 3) := by decide +kernel
theorem dJ2_numberOfLeadingZeros_28 : decode cJ2_numberOfLeadingZeros 28 = .ok (.iload_n 0, 1) := by decide +kernel
theorem dJ2_numberOfLeadingZeros_29 : decode cJ2_numberOfLeadingZeros 29 = .ok (.bipush 16, 2) := by decide +kernel
theorem dJ2_numberOfLeadingZeros_31 : decode cJ2_numberOfLeadingZeros 31 = .ok (.iushr, 1) := by decide +kernel
theorem dJ2_numberOfLeadingZeros_32 : decode cJ2_numberOfLeadingZeros 32 = .ok (.istore_n 0, 1) := by decide +kernel
theorem dJ2_numberOfLeadingZeros_33 : decode cJ2_numberOfLeadingZeros 33 = .ok (.iload_n 0, 1) := by decide +kernel
theorem dJ2_numberOfLeadingZeros_34 : decode cJ2_numberOfLeadingZeros 34 = .ok (.sipush 256, 3) := by decide +kernel
theorem dJ2_numberOfLeadingZeros_37 : decode cJ2_numberOfLeadingZeros 37 = .ok (.if_icmp .lt 11, 3) := by decide +kernel
theorem dJ2_numberOfLeadingZeros_40 : decode cJ2_numberOfLeadingZeros 40 = .ok (.iinc 1 (-8), 3) := by decide +kernel
theorem dJ2_numberOfLeadingZeros_43 : decode cJ2_numberOfLeadingZeros 43 = .ok (.iload_n 0, 1) := by decide +kernel
theorem dJ2_numberOfLeadingZeros_44 : decode cJ2_numberOfLeadingZeros 44 = .ok (.bipush 8, 2) := by decide +kernel
theorem dJ2_numberOfLeadingZeros_46 : decode cJ2_numberOfLeadingZeros 46 = .ok (.iushr, 1) := by decide +kernel
theorem dJ2_numberOfLeadingZeros_47 : decode cJ2_numberOfLeadingZeros 47 = .ok (.istore_n 0, 1) := by decide +kernel
theorem dJ2_numberOfLeadingZeros_48 : decode cJ2_numberOfLeadingZeros 48 = .ok (.iload_n 0, 1) := by decide +kernel
theorem dJ2_numberOfLeadingZeros_49 : decode cJ2_numberOfLeadingZeros 49 = .ok (.bipush 16, 2) := by decide +kernel
theorem dJ2_numberOfLeadingZeros_51 : decode cJ2_numberOfLeadingZeros 51 = .ok (.if_icmp .lt 10, 3) := by decide +kernel
theorem dJ2_numberOfLeadingZeros_54 : decode cJ2_numberOfLeadingZeros 54 = .ok (.iinc 1 (-4), 3) := by decide +kernel
theorem dJ2_numberOfLeadingZeros_57 : decode cJ2_numberOfLeadingZeros 57 = .ok (.iload_n 0, 1) := by decide +kernel
theorem dJ2_numberOfLeadingZeros_58 : decode cJ2_numberOfLeadingZeros 58 = .ok (.iconst 4, 1) := by decide +kernel
theorem dJ2_numberOfLeadingZeros_59 : decode cJ2_numberOfLeadingZeros 59 = .ok (.iushr, 1) := by decide +kernel
theorem dJ2_numberOfLeadingZeros_60 : decode cJ2_numberOfLeadingZeros 60 = .ok (.istore_n 0, 1) := by decide +kernel
theorem dJ2_numberOfLeadingZeros_61 : decode cJ2_numberOfLeadingZeros 61 = .ok (.iload_n 0, 1) := by decide +kernel
theorem dJ2_numberOfLeadingZeros_62 : decode cJ2_numberOfLeadingZeros 62 = .ok (.iconst 4, 1) := by decide +kernel
theorem dJ2_numberOfLeadingZeros_63 : decode cJ2_numberOfLeadingZeros 63 = .ok (.if_icmp .lt 10, 3) := by decide +kernel
theorem dJ2_numberOfLeadingZeros_66 : decode cJ2_numberOfLeadingZeros 66 = .ok (.iinc 1 (-2), 3) := by decide +kernel
theorem dJ2_numberOfLeadingZeros_69 : decode cJ2_numberOfLeadingZeros 69 = .ok (.iload_n 0, 1) := by decide +kernel
theorem dJ2_numberOfLeadingZeros_70 : decode cJ2_numberOfLeadingZeros 70 = .ok (.iconst 2, 1) := by decide +kernel
theorem dJ2_numberOfLeadingZeros_71 : decode cJ2_numberOfLeadingZeros 71 = .ok (.iushr, 1) := by decide +kernel
theorem dJ2_numberOfLeadingZeros_72 : decode cJ2_numberOfLeadingZeros 72 = .ok (.istore_n 0, 1) := by decide +kernel
theorem dJ2_numberOfLeadingZeros_73 : decode cJ2_numberOfLeadingZeros 73 = .ok (.iload_n 1, 1) := by decide +kernel
theorem dJ2_numberOfLeadingZeros_74 : decode cJ2_numberOfLeadingZeros 74 = .ok (.iload_n 0, 1) := by decide +kernel
theorem dJ2_numberOfLeadingZeros_75 : decode cJ2_numberOfLeadingZeros 75 = .ok (.iconst 1, 1) := by decide +kernel
theorem dJ2_numberOfLeadingZeros_76 : decode cJ2_numberOfLeadingZeros 76 = .ok (.iushr, 1) := by decide +kernel
theorem dJ2_numberOfLeadingZeros_77 : decode cJ2_numberOfLeadingZeros 77 = .ok (.isub, 1) := by decide +kernel
theorem dJ2_numberOfLeadingZeros_78 : decode cJ2_numberOfLeadingZeros 78 = .ok (.ireturn, 1) := by decide +kernel
theorem dK4_hasPartOf_0 : decode cK4_hasPartOf 0 = .ok (.iconst 0, 1) := by decide +kernel
theorem dK4_hasPartOf_1 : decode cK4_hasPartOf 1 = .ok (.istore_n 2, 1) := by decide +kernel
theorem dK4_hasPartOf_2 : decode cK4_hasPartOf 2 = .ok (.iload_n 2, 1) := by decide +kernel
theorem dK4_hasPartOf_3 : decode cK4_hasPartOf 3 = .ok (.aload_n 0, 1) := by decide +kernel
theorem dK4_hasPartOf_4 : decode cK4_hasPartOf 4 = .ok (.getfield 18, 3) := by decide +kernel
theorem dK4_hasPartOf_7 : decode cK4_hasPartOf 7 = .ok (.if_icmp .ge 24, 3) := by decide +kernel
theorem dK4_hasPartOf_10 : decode cK4_hasPartOf 10 = .ok (.aload_n 0, 1) := by decide +kernel
theorem dK4_hasPartOf_11 : decode cK4_hasPartOf 11 = .ok (.getfield 9, 3) := by decide +kernel
theorem dK4_hasPartOf_14 : decode cK4_hasPartOf 14 = .ok (.iload_n 2, 1) := by decide +kernel
theorem dK4_hasPartOf_15 : decode cK4_hasPartOf 15 = .ok (.iaload, 1) := by decide +kernel
theorem dK4_hasPartOf_16 : decode cK4_hasPartOf 16 = .ok (.iload_n 1, 1) := by decide +kernel
theorem dK4_hasPartOf_17 : decode cK4_hasPartOf 17 = .ok (.iconst (-1), 1) := by decide +kernel
theorem dK4_hasPartOf_18 : decode cK4_hasPartOf 18 = .ok (.ixor, 1) := by decide +kernel
theorem dK4_hasPartOf_19 : decode cK4_hasPartOf 19 = .ok (.iand, 1) := by decide +kernel
theorem dK4_hasPartOf_20 : decode cK4_hasPartOf 20 = .ok (.ifCond .ne 5, 3) := by decide +kernel
theorem dK4_hasPartOf_23 : decode cK4_hasPartOf 23 = .ok (.iconst 1, 1) := by decide +kernel
theorem dK4_hasPartOf_24 : decode cK4_hasPartOf 24 = .ok (.ireturn, 1) := by decide +kernel
theorem dK4_hasPartOf_25 : decode cK4_hasPartOf 25 = .ok (.iinc 2 1, 3) := by decide +kernel
theorem dK4_hasPartOf_28 : decode cK4_hasPartOf 28 = .ok (.goto (-26), 3) := by decide +kernel
theorem dK4_hasPartOf_31 : decode cK4_hasPartOf 31 = .ok (.iconst 0, 1) := by decide +kernel
theorem dK4_hasPartOf_32 : decode cK4_hasPartOf 32 = .ok (.ireturn, 1) := by decide +kernel
theorem dK0_tryOut_0 : decode cK0_tryOut 0 = .ok (.aload_n 0, 1) := by decide +kernel
theorem dK0_tryOut_1 : decode cK0_tryOut 1 = .ok (.getfield 16, 3) := by decide +kernel
theorem dK0_tryOut_4 : decode cK0_tryOut 4 = .ok (.aload_n 0, 1) := by decide +kernel
theorem dK0_tryOut_5 : decode cK0_tryOut 5 = .ok (.getfield 12, 3) := by decide +kernel
theorem dK0_tryOut_8 : decode cK0_tryOut 8 = .ok (.invokevirtual 219, 3) := by decide +kernel
theorem dK0_tryOut_11 : decode cK0_tryOut 11 = .ok (.aload_n 0, 1) := by decide +kernel
theorem dK0_tryOut_12 : decode cK0_tryOut 12 = .ok (.getfield 29, 3) := by decide +kernel
theorem dK0_tryOut_15 : decode cK0_tryOut 15 = .ok (.aload_n 0, 1) := by decide +kernel
theorem dK0_tryOut_16 : decode cK0_tryOut 16 = .ok (.getfield 16, 3) := by decide +kernel
theorem dK0_tryOut_19 : decode cK0_tryOut 19 = .ok (.iload_n 1, 1) := by decide +kernel
theorem dK0_tryOut_20 : decode cK0_tryOut 20 = .ok (.invokevirtual 163, 3) := by decide +kernel
theorem dK0_tryOut_23 : decode cK0_tryOut 23 = .ok (.aload_n 0, 1) := by decide +kernel
theorem dK0_tryOut_24 : decode cK0_tryOut 24 = .ok (.getfield 16, 3) := by decide +kernel
theorem dK0_tryOut_27 : decode cK0_tryOut 27 = .ok (.invokevirtual 167, 3) := by decide +kernel
theorem dK0_tryOut_30 : decode cK0_tryOut 30 = .ok (.return_, 1) := by decide +kernel
theorem dK1_copyFrom_0 : decode cK1_copyFrom 0 = .ok (.aload_n 1, 1) := by decide +kernel
theorem dK1_copyFrom_1 : decode cK1_copyFrom 1 = .ok (.getfield 9, 3) := by decide +kernel
theorem dK1_copyFrom_4 : decode cK1_copyFrom 4 = .ok (.iconst 0, 1) := by decide +kernel
theorem dK1_copyFrom_5 : decode cK1_copyFrom 5 = .ok (.aload_n 0, 1) := by decide +kernel
theorem dK1_copyFrom_6 : decode cK1_copyFrom 6 = .ok (.getfield 9, 3) := by decide +kernel
theorem dK1_copyFrom_9 : decode cK1_copyFrom 9 = .ok (.iconst 0, 1) := by decide +kernel
theorem dK1_copyFrom_10 : decode cK1_copyFrom 10 = .ok (.bipush 72, 2) := by decide +kernel
theorem dK1_copyFrom_12 : decode cK1_copyFrom 12 = .ok (.invokestatic 33, 3) := by decide +kernel
theorem dK1_copyFrom_15 : decode cK1_copyFrom 15 = .ok (.aload_n 1, 1) := by decide +kernel
theorem dK1_copyFrom_16 : decode cK1_copyFrom 16 = .ok (.getfield 15, 3) := by decide +kernel
theorem dK1_copyFrom_19 : decode cK1_copyFrom 19 = .ok (.iconst 0, 1) := by decide +kernel
theorem dK1_copyFrom_20 : decode cK1_copyFrom 20 = .ok (.aload_n 0, 1) := by decide +kernel
theorem dK1_copyFrom_21 : decode cK1_copyFrom 21 = .ok (.getfield 15, 3) := by decide +kernel
theorem dK1_copyFrom_24 : decode cK1_copyFrom 24 = .ok (.iconst 0, 1) := by decide +kernel
theorem dK1_copyFrom_25 : decode cK1_copyFrom 25 = .ok (.bipush 12, 2) := by decide +kernel
theorem dK1_copyFrom_27 : decode cK1_copyFrom 27 = .ok (.invokestatic 33, 3) := by decide +kernel
theorem dK1_copyFrom_30 : decode cK1_copyFrom 30 = .ok (.aload_n 0, 1) := by decide +kernel
theorem dK1_copyFrom_31 : decode cK1_copyFrom 31 = .ok (.aload_n 1, 1) := by decide +kernel
theorem dK1_copyFrom_32 : decode cK1_copyFrom 32 = .ok (.getfield 21, 3) := by decide +kernel
theorem dK1_copyFrom_35 : decode cK1_copyFrom 35 = .ok (.putfield 21, 3) := by decide +kernel
theorem dK1_copyFrom_38 : decode cK1_copyFrom 38 = .ok (.return_, 1) := by decide +kernel
theorem dK3_doAll_0 : decode cK3_doAll 0 = .ok (.iconst 0, 1) := by decide +kernel
theorem dK3_doAll_1 : decode cK3_doAll 1 = .ok (.istore_n 3, 1) := by decide +kernel
theorem dK3_doAll_2 : decode cK3_doAll 2 = .ok (.iload_n 3, 1) := by decide +kernel
theorem dK3_doAll_3 : decode cK3_doAll 3 = .ok (.aload_n 0, 1) := by decide +kernel
theorem dK3_doAll_4 : decode cK3_doAll 4 = .ok (.getfield 22, 3) := by decide +kernel
theorem dK3_doAll_7 : decode cK3_doAll 7 = .ok (.if_icmp .ge 33, 3) := by decide +kernel
theorem dK3_doAll_10 : decode cK3_doAll 10 = .ok (.iload_n 2, 1) := by decide +kernel
theorem dK3_doAll_11 : decode cK3_doAll 11 = .ok (.iload_n 3, 1) := by decide +kernel
theorem dK3_doAll_12 : decode cK3_doAll 12 = .ok (.invokestatic 26, 3) := by decide +kernel
theorem dK3_doAll_15 : decode cK3_doAll 15 = .ok (.ifCond .eq 19, 3) := by decide +kernel
theorem dK3_doAll_18 : decode cK3_doAll 18 = .ok (.aload_n 1, 1) := by decide +kernel
theorem dK3_doAll_19 : decode cK3_doAll 19 = .ok (.aload_n 0, 1) := by decide +kernel
theorem dK3_doAll_20 : decode cK3_doAll 20 = .ok (.getfield 9, 3) := by decide +kernel
theorem dK3_doAll_23 : decode cK3_doAll 23 = .ok (.iload_n 3, 1) := by decide +kernel
theorem dK3_doAll_24 : decode cK3_doAll 24 = .ok (.baload, 1) := by decide +kernel
theorem dK3_doAll_25 : decode cK3_doAll 25 = .ok (.aload_n 0, 1) := by decide +kernel
theorem dK3_doAll_26 : decode cK3_doAll 26 = .ok (.getfield 15, 3) := by decide +kernel
theorem dK3_doAll_29 : decode cK3_doAll 29 = .ok (.iload_n 3, 1) := by decide +kernel
theorem dK3_doAll_30 : decode cK3_doAll 30 = .ok (.iaload, 1) := by decide +kernel
theorem dK3_doAll_31 : decode cK3_doAll 31 = .ok (.invokevirtual 30, 3) := by decide +kernel
theorem dK3_doAll_34 : decode cK3_doAll 34 = .ok (.iinc 3 1, 3) := by decide +kernel
theorem dK3_doAll_37 : decode cK3_doAll 37 = .ok (.goto (-35), 3) := by decide +kernel
theorem dK3_doAll_40 : decode cK3_doAll 40 = .ok (.return_, 1) := by decide +kernel
theorem dK3_weightOf_0 : decode cK3_weightOf 0 = .ok (.iconst 0, 1) := by decide +kernel
theorem dK3_weightOf_1 : decode cK3_weightOf 1 = .ok (.istore_n 2, 1) := by decide +kernel
theorem dK3_weightOf_2 : decode cK3_weightOf 2 = .ok (.iconst 0, 1) := by decide +kernel
theorem dK3_weightOf_3 : decode cK3_weightOf 3 = .ok (.istore_n 3, 1) := by decide +kernel
theorem dK3_weightOf_4 : decode cK3_weightOf 4 = .ok (.iload_n 3, 1) := by decide +kernel
theorem dK3_weightOf_5 : decode cK3_weightOf 5 = .ok (.aload_n 0, 1) := by decide +kernel
theorem dK3_weightOf_6 : decode cK3_weightOf 6 = .ok (.getfield 22, 3) := by decide +kernel
theorem dK3_weightOf_9 : decode cK3_weightOf 9 = .ok (.if_icmp .ge 26, 3) := by decide +kernel
theorem dK3_weightOf_12 : decode cK3_weightOf 12 = .ok (.iload_n 1, 1) := by decide +kernel
theorem dK3_weightOf_13 : decode cK3_weightOf 13 = .ok (.iload_n 3, 1) := by decide +kernel
theorem dK3_weightOf_14 : decode cK3_weightOf 14 = .ok (.invokestatic 26, 3) := by decide +kernel
theorem dK3_weightOf_17 : decode cK3_weightOf 17 = .ok (.ifCond .eq 12, 3) := by decide +kernel
theorem dK3_weightOf_20 : decode cK3_weightOf 20 = .ok (.iload_n 2, 1) := by decide +kernel
theorem dK3_weightOf_21 : decode cK3_weightOf 21 = .ok (.aload_n 0, 1) := by decide +kernel
theorem dK3_weightOf_22 : decode cK3_weightOf 22 = .ok (.getfield 19, 3) := by decide +kernel
theorem dK3_weightOf_25 : decode cK3_weightOf 25 = .ok (.iload_n 3, 1) := by decide +kernel
theorem dK3_weightOf_26 : decode cK3_weightOf 26 = .ok (.iaload, 1) := by decide +kernel
theorem dK3_weightOf_27 : decode cK3_weightOf 27 = .ok (.iadd, 1) := by decide +kernel
theorem dK3_weightOf_28 : decode cK3_weightOf 28 = .ok (.istore_n 2, 1) := by decide +kernel
theorem dK3_weightOf_29 : decode cK3_weightOf 29 = .ok (.iinc 3 1, 3) := by decide +kernel
theorem dK3_weightOf_32 : decode cK3_weightOf 32 = .ok (.goto (-28), 3) := by decide +kernel
theorem dK3_weightOf_35 : decode cK3_weightOf 35 = .ok (.iload_n 2, 1) := by decide +kernel
theorem dK3_weightOf_36 : decode cK3_weightOf 36 = .ok (.ireturn, 1) := by decide +kernel
theorem dK4_add_0 : decode cK4_add 0 = .ok (.aload_n 0, 1) := by decide +kernel
theorem dK4_add_1 : decode cK4_add 1 = .ok (.getfield 18, 3) := by decide +kernel
theorem dK4_add_4 : decode cK4_add 4 = .ok (.bipush 30, 2) := by decide +kernel
theorem dK4_add_6 : decode cK4_add 6 = .ok (.if_icmp .lt 4, 3) := by decide +kernel
theorem dK4_add_9 : decode cK4_add 9 = .ok (.return_, 1) := by decide +kernel
theorem dK4_add_10 : decode cK4_add 10 = .ok (.aload_n 0, 1) := by decide +kernel
theorem dK4_add_11 : decode cK4_add 11 = .ok (.getfield 18, 3) := by decide +kernel
theorem dK4_add_14 : decode cK4_add 14 = .ok (.istore_n 3, 1) := by decide +kernel
theorem dK4_add_15 : decode cK4_add 15 = .ok (.iload_n 3, 1) := by decide +kernel
theorem dK4_add_16 : decode cK4_add 16 = .ok (.ifCond .le 49, 3) := by decide +kernel
theorem dK4_add_19 : decode cK4_add 19 = .ok (.aload_n 0, 1) := by decide +kernel
theorem dK4_add_20 : decode cK4_add 20 = .ok (.getfield 15, 3) := by decide +kernel
theorem dK4_add_23 : decode cK4_add 23 = .ok (.iload_n 3, 1) := by decide +kernel
theorem dK4_add_24 : decode cK4_add 24 = .ok (.iconst 1, 1) := by decide +kernel
theorem dK4_add_25 : decode cK4_add 25 = .ok (.isub, 1) := by decide +kernel
theorem dK4_add_26 : decode cK4_add 26 = .ok (.iaload, 1) := by decide +kernel
theorem dK4_add_27 : decode cK4_add 27 = .ok (.iload_n 2, 1) := by decide +kernel
theorem dK4_add_28 : decode cK4_add 28 = .ok (.if_icmp .le 37, 3) := by decide +kernel
theorem dK4_add_31 : decode cK4_add 31 = .ok (.aload_n 0, 1) := by decide +kernel
theorem dK4_add_32 : decode cK4_add 32 = .ok (.getfield 9, 3) := by decide +kernel
theorem dK4_add_35 : decode cK4_add 35 = .ok (.iload_n 3, 1) := by decide +kernel
theorem dK4_add_36 : decode cK4_add 36 = .ok (.aload_n 0, 1) := by decide +kernel
theorem dK4_add_37 : decode cK4_add 37 = .ok (.getfield 9, 3) := by decide +kernel
theorem dK4_add_40 : decode cK4_add 40 = .ok (.iload_n 3, 1) := by decide +kernel
theorem dK4_add_41 : decode cK4_add 41 = .ok (.iconst 1, 1) := by decide +kernel
theorem dK4_add_42 : decode cK4_add 42 = .ok (.isub, 1) := by decide +kernel
theorem dK4_add_43 : decode cK4_add 43 = .ok (.iaload, 1) := by decide +kernel
theorem dK4_add_44 : decode cK4_add 44 = .ok (.iastore, 1) := by decide +kernel
theorem dK4_add_45 : decode cK4_add 45 = .ok (.aload_n 0, 1) := by decide +kernel
theorem dK4_add_46 : decode cK4_add 46 = .ok (.getfield 15, 3) := by decide +kernel
theorem dK4_add_49 : decode cK4_add 49 = .ok (.iload_n 3, 1) := by decide +kernel
theorem dK4_add_50 : decode cK4_add 50 = .ok (.aload_n 0, 1) := by decide +kernel
theorem dK4_add_51 : decode cK4_add 51 = .ok (.getfield 15, 3) := by decide +kernel
theorem dK4_add_54 : decode cK4_add 54 = .ok (.iload_n 3, 1) := by decide +kernel
theorem dK4_add_55 : decode cK4_add 55 = .ok (.iconst 1, 1) := by decide +kernel
theorem dK4_add_56 : decode cK4_add 56 = .ok (.isub, 1) := by decide +kernel
theorem dK4_add_57 : decode cK4_add 57 = .ok (.iaload, 1) := by decide +kernel
theorem dK4_add_58 : decode cK4_add 58 = .ok (.iastore, 1) := by decide +kernel
theorem dK4_add_59 : decode cK4_add 59 = .ok (.iinc 3 (-1), 3) := by decide +kernel
theorem dK4_add_62 : decode cK4_add 62 = .ok (.goto (-47), 3) := by decide +kernel
theorem dK4_add_65 : decode cK4_add 65 = .ok (.aload_n 0, 1) := by decide +kernel
theorem dK4_add_66 : decode cK4_add 66 = .ok (.getfield 9, 3) := by decide +kernel
theorem dK4_add_69 : decode cK4_add 69 = .ok (.iload_n 3, 1) := by decide +kernel
theorem dK4_add_70 : decode cK4_add 70 = .ok (.iload_n 1, 1) := by decide +kernel
theorem dK4_add_71 : decode cK4_add 71 = .ok (.iastore, 1) := by decide +kernel
theorem dK4_add_72 : decode cK4_add 72 = .ok (.aload_n 0, 1) := by decide +kernel
theorem dK4_add_73 : decode cK4_add 73 = .ok (.getfield 15, 3) := by decide +kernel
theorem dK4_add_76 : decode cK4_add 76 = .ok (.iload_n 3, 1) := by decide +kernel
theorem dK4_add_77 : decode cK4_add 77 = .ok (.iload_n 2, 1) := by decide +kernel
theorem dK4_add_78 : decode cK4_add 78 = .ok (.iastore, 1) := by decide +kernel
theorem dK4_add_79 : decode cK4_add 79 = .ok (.aload_n 0, 1) := by decide +kernel
theorem dK4_add_80 : decode cK4_add 80 = .ok (.dup, 1) := by decide +kernel
theorem dK4_add_81 : decode cK4_add 81 = .ok (.getfield 18, 3) := by decide +kernel
theorem dK4_add_84 : decode cK4_add 84 = .ok (.iconst 1, 1) := by decide +kernel
theorem dK4_add_85 : decode cK4_add 85 = .ok (.iadd, 1) := by decide +kernel
theorem dK4_add_86 : decode cK4_add 86 = .ok (.putfield 18, 3) := by decide +kernel
theorem dK4_add_89 : decode cK4_add 89 = .ok (.return_, 1) := by decide +kernel
theorem dK0_settled_0 : decode cK0_settled 0 = .ok (.aload_n 0, 1) := by decide +kernel
theorem dK0_settled_1 : decode cK0_settled 1 = .ok (.getfield 57, 3) := by decide +kernel
theorem dK0_settled_4 : decode cK0_settled 4 = .ok (.ireturn, 1) := by decide +kernel
theorem dK0_tried_0 : decode cK0_tried 0 = .ok (.aload_n 0, 1) := by decide +kernel
theorem dK0_tried_1 : decode cK0_tried 1 = .ok (.getfield 54, 3) := by decide +kernel
theorem dK0_tried_4 : decode cK0_tried 4 = .ok (.ireturn, 1) := by decide +kernel
theorem dK0_set_0 : decode cK0_set 0 = .ok (.aload_n 0, 1) := by decide +kernel
theorem dK0_set_1 : decode cK0_set 1 = .ok (.getfield 36, 3) := by decide +kernel
theorem dK0_set_4 : decode cK0_set 4 = .ok (.iload_n 1, 1) := by decide +kernel
theorem dK0_set_5 : decode cK0_set 5 = .ok (.invokevirtual 150, 3) := by decide +kernel
theorem dK0_set_8 : decode cK0_set 8 = .ok (.iload_n 2, 1) := by decide +kernel
theorem dK0_set_9 : decode cK0_set 9 = .ok (.invokestatic 153, 3) := by decide +kernel
theorem dK0_set_12 : decode cK0_set 12 = .ok (.ireturn, 1) := by decide +kernel
theorem dK4_at_0 : decode cK4_at 0 = .ok (.iload_n 1, 1) := by decide +kernel
theorem dK4_at_1 : decode cK4_at 1 = .ok (.ifCond .lt 20, 3) := by decide +kernel
theorem dK4_at_4 : decode cK4_at 4 = .ok (.iload_n 1, 1) := by decide +kernel
theorem dK4_at_5 : decode cK4_at 5 = .ok (.aload_n 0, 1) := by decide +kernel
theorem dK4_at_6 : decode cK4_at 6 = .ok (.getfield 18, 3) := by decide +kernel
theorem dK4_at_9 : decode cK4_at 9 = .ok (.if_icmp .ge 12, 3) := by decide +kernel
theorem dK4_at_12 : decode cK4_at 12 = .ok (.aload_n 0, 1) := by decide +kernel
theorem dK4_at_13 : decode cK4_at 13 = .ok (.getfield 9, 3) := by decide +kernel
theorem dK4_at_16 : decode cK4_at 16 = .ok (.iload_n 1, 1) := by decide +kernel
theorem dK4_at_17 : decode cK4_at 17 = .ok (.iaload, 1) := by decide +kernel
theorem dK4_at_18 : decode cK4_at 18 = .ok (.goto 4, 3) := by decide +kernel
theorem dK4_at_21 : decode cK4_at 21 = .ok (.iconst 0, 1) := by decide +kernel
theorem dK4_at_22 : decode cK4_at 22 = .ok (.ireturn, 1) := by decide +kernel
theorem dK0_weight_0 : decode cK0_weight 0 = .ok (.aload_n 0, 1) := by decide +kernel
theorem dK0_weight_1 : decode cK0_weight 1 = .ok (.getfield 36, 3) := by decide +kernel
theorem dK0_weight_4 : decode cK0_weight 4 = .ok (.iload_n 1, 1) := by decide +kernel
theorem dK0_weight_5 : decode cK0_weight 5 = .ok (.invokevirtual 150, 3) := by decide +kernel
theorem dK0_weight_8 : decode cK0_weight 8 = .ok (.istore_n 2, 1) := by decide +kernel
theorem dK0_weight_9 : decode cK0_weight 9 = .ok (.iload_n 2, 1) := by decide +kernel
theorem dK0_weight_10 : decode cK0_weight 10 = .ok (.ifCond .ne 8, 3) := by decide +kernel
theorem dK0_weight_13 : decode cK0_weight 13 = .ok (.bipush (-2), 2) := by decide +kernel
theorem dK0_weight_15 : decode cK0_weight 15 = .ok (.goto 11, 3) := by decide +kernel
theorem dK0_weight_18 : decode cK0_weight 18 = .ok (.aload_n 0, 1) := by decide +kernel
theorem dK0_weight_19 : decode cK0_weight 19 = .ok (.getfield 29, 3) := by decide +kernel
theorem dK0_weight_22 : decode cK0_weight 22 = .ok (.iload_n 2, 1) := by decide +kernel
theorem dK0_weight_23 : decode cK0_weight 23 = .ok (.invokevirtual 156, 3) := by decide +kernel
theorem dK0_weight_26 : decode cK0_weight 26 = .ok (.ireturn, 1) := by decide +kernel
theorem dK0_breaks_0 : decode cK0_breaks 0 = .ok (.aload_n 0, 1) := by decide +kernel
theorem dK0_breaks_1 : decode cK0_breaks 1 = .ok (.getfield 36, 3) := by decide +kernel
theorem dK0_breaks_4 : decode cK0_breaks 4 = .ok (.iload_n 1, 1) := by decide +kernel
theorem dK0_breaks_5 : decode cK0_breaks 5 = .ok (.invokevirtual 150, 3) := by decide +kernel
theorem dK0_breaks_8 : decode cK0_breaks 8 = .ok (.istore_n 3, 1) := by decide +kernel
theorem dK0_breaks_9 : decode cK0_breaks 9 = .ok (.iload_n 3, 1) := by decide +kernel
theorem dK0_breaks_10 : decode cK0_breaks 10 = .ok (.ifCond .ne 6, 3) := by decide +kernel
theorem dK0_breaks_13 : decode cK0_breaks 13 = .ok (.bipush (-2), 2) := by decide +kernel
theorem dK0_breaks_15 : decode cK0_breaks 15 = .ok (.ireturn, 1) := by decide +kernel
theorem dK0_breaks_16 : decode cK0_breaks 16 = .ok (.aload_n 0, 1) := by decide +kernel
theorem dK0_breaks_17 : decode cK0_breaks 17 = .ok (.iload_n 3, 1) := by decide +kernel
theorem dK0_breaks_18 : decode cK0_breaks 18 = .ok (.invokevirtual 159, 3) := by decide +kernel
theorem dK0_breaks_21 : decode cK0_breaks 21 = .ok (.aload_n 0, 1) := by decide +kernel
theorem dK0_breaks_22 : decode cK0_breaks 22 = .ok (.iload_n 2, 1) := by decide +kernel
theorem dK0_breaks_23 : decode cK0_breaks 23 = .ok (.iconst 1, 1) := by decide +kernel
theorem dK0_breaks_24 : decode cK0_breaks 24 = .ok (.invokevirtual 93, 3) := by decide +kernel
theorem dK0_breaks_27 : decode cK0_breaks 27 = .ok (.ireturn, 1) := by decide +kernel
theorem dK0_apply_0 : decode cK0_apply 0 = .ok (.aload_n 0, 1) := by decide +kernel
theorem dK0_apply_1 : decode cK0_apply 1 = .ok (.getfield 36, 3) := by decide +kernel
theorem dK0_apply_4 : decode cK0_apply 4 = .ok (.iload_n 1, 1) := by decide +kernel
theorem dK0_apply_5 : decode cK0_apply 5 = .ok (.invokevirtual 150, 3) := by decide +kernel
theorem dK0_apply_8 : decode cK0_apply 8 = .ok (.istore_n 2, 1) := by decide +kernel
theorem dK0_apply_9 : decode cK0_apply 9 = .ok (.iload_n 2, 1) := by decide +kernel
theorem dK0_apply_10 : decode cK0_apply 10 = .ok (.ifCond .ne 6, 3) := by decide +kernel
theorem dK0_apply_13 : decode cK0_apply 13 = .ok (.bipush (-2), 2) := by decide +kernel
theorem dK0_apply_15 : decode cK0_apply 15 = .ok (.ireturn, 1) := by decide +kernel
theorem dK0_apply_16 : decode cK0_apply 16 = .ok (.aload_n 0, 1) := by decide +kernel
theorem dK0_apply_17 : decode cK0_apply 17 = .ok (.getfield 29, 3) := by decide +kernel
theorem dK0_apply_20 : decode cK0_apply 20 = .ok (.aload_n 0, 1) := by decide +kernel
theorem dK0_apply_21 : decode cK0_apply 21 = .ok (.getfield 12, 3) := by decide +kernel
theorem dK0_apply_24 : decode cK0_apply 24 = .ok (.iload_n 2, 1) := by decide +kernel
theorem dK0_apply_25 : decode cK0_apply 25 = .ok (.invokevirtual 163, 3) := by decide +kernel
theorem dK0_apply_28 : decode cK0_apply 28 = .ok (.aload_n 0, 1) := by decide +kernel
theorem dK0_apply_29 : decode cK0_apply 29 = .ok (.getfield 12, 3) := by decide +kernel
theorem dK0_apply_32 : decode cK0_apply 32 = .ok (.invokevirtual 167, 3) := by decide +kernel
theorem dK0_apply_35 : decode cK0_apply 35 = .ok (.aload_n 0, 1) := by decide +kernel
theorem dK0_apply_36 : decode cK0_apply 36 = .ok (.getfield 36, 3) := by decide +kernel
theorem dK0_apply_39 : decode cK0_apply 39 = .ok (.invokevirtual 139, 3) := by decide +kernel
theorem dK0_apply_42 : decode cK0_apply 42 = .ok (.aload_n 0, 1) := by decide +kernel
theorem dK0_apply_43 : decode cK0_apply 43 = .ok (.invokevirtual 170, 3) := by decide +kernel
theorem dK0_apply_46 : decode cK0_apply 46 = .ok (.ireturn, 1) := by decide +kernel
theorem dK0_cover_0 : decode cK0_cover 0 = .ok (.iload_n 1, 1) := by decide +kernel
theorem dK0_cover_1 : decode cK0_cover 1 = .ok (.ifCond .lt 9, 3) := by decide +kernel
theorem dK0_cover_4 : decode cK0_cover 4 = .ok (.iload_n 1, 1) := by decide +kernel
theorem dK0_cover_5 : decode cK0_cover 5 = .ok (.bipush 12, 2) := by decide +kernel
theorem dK0_cover_7 : decode cK0_cover 7 = .ok (.if_icmp .le 5, 3) := by decide +kernel
theorem dK0_cover_10 : decode cK0_cover 10 = .ok (.iconst (-1), 1) := by decide +kernel
theorem dK0_cover_11 : decode cK0_cover 11 = .ok (.ireturn, 1) := by decide +kernel
theorem dK0_cover_12 : decode cK0_cover 12 = .ok (.aload_n 0, 1) := by decide +kernel
theorem dK0_cover_13 : decode cK0_cover 13 = .ok (.iload_n 1, 1) := by decide +kernel
theorem dK0_cover_14 : decode cK0_cover 14 = .ok (.aload_n 0, 1) := by decide +kernel
theorem dK0_cover_15 : decode cK0_cover 15 = .ok (.getfield 29, 3) := by decide +kernel
theorem dK0_cover_18 : decode cK0_cover 18 = .ok (.getfield 121, 3) := by decide +kernel
theorem dK0_cover_21 : decode cK0_cover 21 = .ok (.invokestatic 140, 3) := by decide +kernel
theorem dK0_cover_24 : decode cK0_cover 24 = .ok (.invokevirtual 174, 3) := by decide +kernel
theorem dK0_cover_27 : decode cK0_cover 27 = .ok (.istore_n 2, 1) := by decide +kernel
theorem dK0_cover_28 : decode cK0_cover 28 = .ok (.iload_n 2, 1) := by decide +kernel
theorem dK0_cover_29 : decode cK0_cover 29 = .ok (.iconst (-1), 1) := by decide +kernel
theorem dK0_cover_30 : decode cK0_cover 30 = .ok (.if_icmp .ne 11, 3) := by decide +kernel
theorem dK0_cover_33 : decode cK0_cover 33 = .ok (.aload_n 0, 1) := by decide +kernel
theorem dK0_cover_34 : decode cK0_cover 34 = .ok (.iconst 0, 1) := by decide +kernel
theorem dK0_cover_35 : decode cK0_cover 35 = .ok (.putfield 47, 3) := by decide +kernel
theorem dK0_cover_38 : decode cK0_cover 38 = .ok (.bipush (-2), 2) := by decide +kernel
theorem dK0_cover_40 : decode cK0_cover 40 = .ok (.ireturn, 1) := by decide +kernel
theorem dK0_cover_41 : decode cK0_cover 41 = .ok (.aload_n 0, 1) := by decide +kernel
theorem dK0_cover_42 : decode cK0_cover 42 = .ok (.iload_n 2, 1) := by decide +kernel
theorem dK0_cover_43 : decode cK0_cover 43 = .ok (.putfield 47, 3) := by decide +kernel
theorem dK0_cover_46 : decode cK0_cover 46 = .ok (.aload_n 0, 1) := by decide +kernel
theorem dK0_cover_47 : decode cK0_cover 47 = .ok (.getfield 29, 3) := by decide +kernel
theorem dK0_cover_50 : decode cK0_cover 50 = .ok (.iload_n 2, 1) := by decide +kernel
theorem dK0_cover_51 : decode cK0_cover 51 = .ok (.invokevirtual 156, 3) := by decide +kernel
theorem dK0_cover_54 : decode cK0_cover 54 = .ok (.ireturn, 1) := by decide +kernel
theorem dK0_lightestCover_0 : decode cK0_lightestCover 0 = .ok (.aload_n 0, 1) := by decide +kernel
theorem dK0_lightestCover_1 : decode cK0_lightestCover 1 = .ok (.iconst 0, 1) := by decide +kernel
theorem dK0_lightestCover_2 : decode cK0_lightestCover 2 = .ok (.putfield 54, 3) := by decide +kernel
theorem dK0_lightestCover_5 : decode cK0_lightestCover 5 = .ok (.aload_n 0, 1) := by decide +kernel
theorem dK0_lightestCover_6 : decode cK0_lightestCover 6 = .ok (.iconst 0, 1) := by decide +kernel
theorem dK0_lightestCover_7 : decode cK0_lightestCover 7 = .ok (.putfield 57, 3) := by decide +kernel
theorem dK0_lightestCover_10 : decode cK0_lightestCover 10 = .ok (.iconst (-1), 1) := by decide +kernel
theorem dK0_lightestCover_11 : decode cK0_lightestCover 11 = .ok (.istore_n 2, 1) := by decide +kernel
theorem dK0_lightestCover_12 : decode cK0_lightestCover 12 = .ok (.bipush 109, 2) := by decide +kernel
theorem dK0_lightestCover_14 : decode cK0_lightestCover 14 = .ok (.istore_n 3, 1) := by decide +kernel
theorem dK0_lightestCover_15 : decode cK0_lightestCover 15 = .ok (.iconst 0, 1) := by decide +kernel
theorem dK0_lightestCover_16 : decode cK0_lightestCover 16 = .ok (.istore 4, 2) := by decide +kernel
theorem dK0_lightestCover_18 : decode cK0_lightestCover 18 = .ok (.iconst 0, 1) := by decide +kernel
theorem dK0_lightestCover_19 : decode cK0_lightestCover 19 = .ok (.istore 5, 2) := by decide +kernel
theorem dK0_lightestCover_21 : decode cK0_lightestCover 21 = .ok (.iload 5, 2) := by decide +kernel
theorem dK0_lightestCover_23 : decode cK0_lightestCover 23 = .ok (.sipush 4096, 3) := by decide +kernel
theorem dK0_lightestCover_26 : decode cK0_lightestCover 26 = .ok (.if_icmp .ge 85, 3) := by decide +kernel
theorem dK0_lightestCover_29 : decode cK0_lightestCover 29 = .ok (.iload 4, 2) := by decide +kernel
theorem dK0_lightestCover_31 : decode cK0_lightestCover 31 = .ok (.iconst (-1), 1) := by decide +kernel
theorem dK0_lightestCover_32 : decode cK0_lightestCover 32 = .ok (.if_icmp .eq 79, 3) := by decide +kernel
theorem dK0_lightestCover_35 : decode cK0_lightestCover 35 = .ok (.aload_n 0, 1) := by decide +kernel
theorem dK0_lightestCover_36 : decode cK0_lightestCover 36 = .ok (.getfield 54, 3) := by decide +kernel
theorem dK0_lightestCover_39 : decode cK0_lightestCover 39 = .ok (.aload_n 0, 1) := by decide +kernel
theorem dK0_lightestCover_40 : decode cK0_lightestCover 40 = .ok (.getfield 51, 3) := by decide +kernel
theorem dK0_lightestCover_43 : decode cK0_lightestCover 43 = .ok (.if_icmp .lt 5, 3) := by decide +kernel
theorem dK0_lightestCover_46 : decode cK0_lightestCover 46 = .ok (.iload_n 2, 1) := by decide +kernel
theorem dK0_lightestCover_47 : decode cK0_lightestCover 47 = .ok (.ireturn, 1) := by decide +kernel
theorem dK0_lightestCover_48 : decode cK0_lightestCover 48 = .ok (.aload_n 0, 1) := by decide +kernel
theorem dK0_lightestCover_49 : decode cK0_lightestCover 49 = .ok (.dup, 1) := by decide +kernel
theorem dK0_lightestCover_50 : decode cK0_lightestCover 50 = .ok (.getfield 54, 3) := by decide +kernel
theorem dK0_lightestCover_53 : decode cK0_lightestCover 53 = .ok (.iconst 1, 1) := by decide +kernel
theorem dK0_lightestCover_54 : decode cK0_lightestCover 54 = .ok (.iadd, 1) := by decide +kernel
theorem dK0_lightestCover_55 : decode cK0_lightestCover 55 = .ok (.putfield 54, 3) := by decide +kernel
theorem dK0_lightestCover_58 : decode cK0_lightestCover 58 = .ok (.aload_n 0, 1) := by decide +kernel
theorem dK0_lightestCover_59 : decode cK0_lightestCover 59 = .ok (.getfield 29, 3) := by decide +kernel
theorem dK0_lightestCover_62 : decode cK0_lightestCover 62 = .ok (.iload 4, 2) := by decide +kernel
theorem dK0_lightestCover_64 : decode cK0_lightestCover 64 = .ok (.invokevirtual 156, 3) := by decide +kernel
theorem dK0_lightestCover_67 : decode cK0_lightestCover 67 = .ok (.istore 6, 2) := by decide +kernel
theorem dK0_lightestCover_69 : decode cK0_lightestCover 69 = .ok (.iload 6, 2) := by decide +kernel
theorem dK0_lightestCover_71 : decode cK0_lightestCover 71 = .ok (.iload_n 3, 1) := by decide +kernel
theorem dK0_lightestCover_72 : decode cK0_lightestCover 72 = .ok (.if_icmp .ge 18, 3) := by decide +kernel
theorem dK0_lightestCover_75 : decode cK0_lightestCover 75 = .ok (.aload_n 0, 1) := by decide +kernel
theorem dK0_lightestCover_76 : decode cK0_lightestCover 76 = .ok (.iload 4, 2) := by decide +kernel
theorem dK0_lightestCover_78 : decode cK0_lightestCover 78 = .ok (.invokevirtual 232, 3) := by decide +kernel
theorem dK0_lightestCover_81 : decode cK0_lightestCover 81 = .ok (.ifCond .eq 9, 3) := by decide +kernel
theorem dK0_lightestCover_84 : decode cK0_lightestCover 84 = .ok (.iload 4, 2) := by decide +kernel
theorem dK0_lightestCover_86 : decode cK0_lightestCover 86 = .ok (.istore_n 2, 1) := by decide +kernel
theorem dK0_lightestCover_87 : decode cK0_lightestCover 87 = .ok (.iload 6, 2) := by decide +kernel
theorem dK0_lightestCover_89 : decode cK0_lightestCover 89 = .ok (.istore_n 3, 1) := by decide +kernel
theorem dK0_lightestCover_90 : decode cK0_lightestCover 90 = .ok (.iload 4, 2) := by decide +kernel
theorem dK0_lightestCover_92 : decode cK0_lightestCover 92 = .ok (.aload_n 0, 1) := by decide +kernel
theorem dK0_lightestCover_93 : decode cK0_lightestCover 93 = .ok (.getfield 29, 3) := by decide +kernel
theorem dK0_lightestCover_96 : decode cK0_lightestCover 96 = .ok (.getfield 121, 3) := by decide +kernel
theorem dK0_lightestCover_99 : decode cK0_lightestCover 99 = .ok (.iload_n 1, 1) := by decide +kernel
theorem dK0_lightestCover_100 : decode cK0_lightestCover 100 = .ok (.invokestatic 223, 3) := by decide +kernel
theorem dK0_lightestCover_103 : decode cK0_lightestCover 103 = .ok (.istore 4, 2) := by decide +kernel
theorem dK0_lightestCover_105 : decode cK0_lightestCover 105 = .ok (.iinc 5 1, 3) := by decide +kernel
theorem dK0_lightestCover_108 : decode cK0_lightestCover 108 = .ok (.goto (-87), 3) := by decide +kernel
theorem dK0_lightestCover_111 : decode cK0_lightestCover 111 = .ok (.aload_n 0, 1) := by decide +kernel
theorem dK0_lightestCover_112 : decode cK0_lightestCover 112 = .ok (.iconst 1, 1) := by decide +kernel
theorem dK0_lightestCover_113 : decode cK0_lightestCover 113 = .ok (.putfield 57, 3) := by decide +kernel
theorem dK0_lightestCover_116 : decode cK0_lightestCover 116 = .ok (.iload_n 2, 1) := by decide +kernel
theorem dK0_lightestCover_117 : decode cK0_lightestCover 117 = .ok (.ireturn, 1) := by decide +kernel
theorem dK0_putsAllRight_0 : decode cK0_putsAllRight 0 = .ok (.aload_n 0, 1) := by decide +kernel
theorem dK0_putsAllRight_1 : decode cK0_putsAllRight 1 = .ok (.iload_n 1, 1) := by decide +kernel
theorem dK0_putsAllRight_2 : decode cK0_putsAllRight 2 = .ok (.invokevirtual 159, 3) := by decide +kernel
theorem dK0_putsAllRight_5 : decode cK0_putsAllRight 5 = .ok (.iconst 0, 1) := by decide +kernel
theorem dK0_putsAllRight_6 : decode cK0_putsAllRight 6 = .ok (.istore_n 2, 1) := by decide +kernel
theorem dK0_putsAllRight_7 : decode cK0_putsAllRight 7 = .ok (.iload_n 2, 1) := by decide +kernel
theorem dK0_putsAllRight_8 : decode cK0_putsAllRight 8 = .ok (.aload_n 0, 1) := by decide +kernel
theorem dK0_putsAllRight_9 : decode cK0_putsAllRight 9 = .ok (.getfield 22, 3) := by decide +kernel
theorem dK0_putsAllRight_12 : decode cK0_putsAllRight 12 = .ok (.getfield 80, 3) := by decide +kernel
theorem dK0_putsAllRight_15 : decode cK0_putsAllRight 15 = .ok (.if_icmp .ge 26, 3) := by decide +kernel
theorem dK0_putsAllRight_18 : decode cK0_putsAllRight 18 = .ok (.aload_n 0, 1) := by decide +kernel
theorem dK0_putsAllRight_19 : decode cK0_putsAllRight 19 = .ok (.getfield 22, 3) := by decide +kernel
theorem dK0_putsAllRight_22 : decode cK0_putsAllRight 22 = .ok (.aload_n 0, 1) := by decide +kernel
theorem dK0_putsAllRight_23 : decode cK0_putsAllRight 23 = .ok (.getfield 16, 3) := by decide +kernel
theorem dK0_putsAllRight_26 : decode cK0_putsAllRight 26 = .ok (.iload_n 2, 1) := by decide +kernel
theorem dK0_putsAllRight_27 : decode cK0_putsAllRight 27 = .ok (.invokevirtual 83, 3) := by decide +kernel
theorem dK0_putsAllRight_30 : decode cK0_putsAllRight 30 = .ok (.ifCond .eq 5, 3) := by decide +kernel
theorem dK0_putsAllRight_33 : decode cK0_putsAllRight 33 = .ok (.iconst 0, 1) := by decide +kernel
theorem dK0_putsAllRight_34 : decode cK0_putsAllRight 34 = .ok (.ireturn, 1) := by decide +kernel
theorem dK0_putsAllRight_35 : decode cK0_putsAllRight 35 = .ok (.iinc 2 1, 3) := by decide +kernel
theorem dK0_putsAllRight_38 : decode cK0_putsAllRight 38 = .ok (.goto (-31), 3) := by decide +kernel
theorem dK0_putsAllRight_41 : decode cK0_putsAllRight 41 = .ok (.iconst 1, 1) := by decide +kernel
theorem dK0_putsAllRight_42 : decode cK0_putsAllRight 42 = .ok (.ireturn, 1) := by decide +kernel
theorem dK0_covered_0 : decode cK0_covered 0 = .ok (.aload_n 0, 1) := by decide +kernel
theorem dK0_covered_1 : decode cK0_covered 1 = .ok (.getfield 47, 3) := by decide +kernel
theorem dK0_covered_4 : decode cK0_covered 4 = .ok (.iload_n 1, 1) := by decide +kernel
theorem dK0_covered_5 : decode cK0_covered 5 = .ok (.invokestatic 153, 3) := by decide +kernel
theorem dK0_covered_8 : decode cK0_covered 8 = .ok (.ireturn, 1) := by decide +kernel
theorem dJ7_newLength_0 : decode cJ7_newLength 0 = .ok (.iload_n 0, 1) := by decide +kernel
theorem dJ7_newLength_1 : decode cJ7_newLength 1 = .ok (.iload_n 1, 1) := by decide +kernel
theorem dJ7_newLength_2 : decode cJ7_newLength 2 = .ok (.iload_n 2, 1) := by decide +kernel
theorem dJ7_newLength_3 : decode cJ7_newLength 3 = .ok (.invokestatic 194, 3) := by decide +kernel
theorem dJ7_newLength_6 : decode cJ7_newLength 6 = .ok (.iadd, 1) := by decide +kernel
theorem dJ7_newLength_7 : decode cJ7_newLength 7 = .ok (.istore_n 3, 1) := by decide +kernel
theorem dJ7_newLength_8 : decode cJ7_newLength 8 = .ok (.iconst 0, 1) := by decide +kernel
theorem dJ7_newLength_9 : decode cJ7_newLength 9 = .ok (.iload_n 3, 1) := by decide +kernel
theorem dJ7_newLength_10 : decode cJ7_newLength 10 = .ok (.if_icmp .ge 11, 3) := by decide +kernel
theorem dJ7_newLength_21 : decode cJ7_newLength 21 = .ok (.iload_n 0, 1) := by decide +kernel
theorem dJ7_newLength_22 : decode cJ7_newLength 22 = .ok (.iload_n 1, 1) := by decide +kernel
theorem dJ7_newLength_23 : decode cJ7_newLength 23 = .ok (.invokestatic 201, 3) := by decide +kernel
theorem dJ9_max_0 : decode cJ9_max 0 = .ok (.iload_n 0, 1) := by decide +kernel
theorem dJ9_max_1 : decode cJ9_max 1 = .ok (.iload_n 1, 1) := by decide +kernel
theorem dJ9_max_2 : decode cJ9_max 2 = .ok (.if_icmp .lt 7, 3) := by decide +kernel
theorem dJ9_max_5 : decode cJ9_max 5 = .ok (.iload_n 0, 1) := by decide +kernel
theorem dJ9_max_6 : decode cJ9_max 6 = .ok (.goto 4, 3) := by decide +kernel
theorem dJ9_max_9 : decode cJ9_max 9 = .ok (.iload_n 1, 1) := by decide +kernel
theorem dJ9_max_10 : decode cJ9_max 10 = .ok (.ireturn, 1) := by decide +kernel
theorem dJ7_hugeLength_0 : decode cJ7_hugeLength 0 = .ok (.iload_n 0, 1) := by decide +kernel
theorem dJ7_hugeLength_1 : decode cJ7_hugeLength 1 = .ok (.iload_n 1, 1) := by decide +kernel
theorem dJ7_hugeLength_2 : decode cJ7_hugeLength 2 = .ok (.iadd, 1) := by decide +kernel
theorem dJ7_hugeLength_3 : decode cJ7_hugeLength 3 = .ok (.istore_n 2, 1) := by decide +kernel
theorem dJ7_hugeLength_4 : decode cJ7_hugeLength 4 = .ok (.iload_n 2, 1) := by decide +kernel
theorem dJ7_hugeLength_5 : decode cJ7_hugeLength 5 = .ok (.ifCond .ge 44, 3) := by decide +kernel
theorem dJ7_hugeLength_8 : decode cJ7_hugeLength 8 = .ok (.new 204, 3) := by decide +kernel
theorem dJ7_hugeLength_49 : decode cJ7_hugeLength 49 = .ok (.iload_n 2, 1) := by decide +kernel
theorem dJ7_hugeLength_50 : decode cJ7_hugeLength 50 = .ok (.ldc 200, 2) := by decide +kernel
theorem dJ7_hugeLength_52 : decode cJ7_hugeLength 52 = .ok (.if_icmp .gt 6, 3) := by decide +kernel
theorem dJ7_hugeLength_55 : decode cJ7_hugeLength 55 = .ok (.ldc 200, 2) := by decide +kernel
theorem dJ7_hugeLength_57 : decode cJ7_hugeLength 57 = .ok (.ireturn, 1) := by decide +kernel
theorem dJ7_hugeLength_58 : decode cJ7_hugeLength 58 = .ok (.iload_n 2, 1) := by decide +kernel
theorem dJ7_hugeLength_59 : decode cJ7_hugeLength 59 = .ok (.ireturn, 1) := by decide +kernel
theorem dJ3_checkBoundsBeginEnd_0 : decode cJ3_checkBoundsBeginEnd 0 = .ok (.iload_n 0, 1) := by decide +kernel
theorem dJ3_checkBoundsBeginEnd_1 : decode cJ3_checkBoundsBeginEnd 1 = .ok (.iload_n 1, 1) := by decide +kernel
theorem dJ3_checkBoundsBeginEnd_2 : decode cJ3_checkBoundsBeginEnd 2 = .ok (.iload_n 2, 1) := by decide +kernel
theorem dJ3_checkBoundsBeginEnd_3 : decode cJ3_checkBoundsBeginEnd 3 = .ok (.getstatic 1053, 3) := by decide +kernel
theorem dJ3_checkBoundsOffCount_0 : decode cJ3_checkBoundsOffCount 0 = .ok (.iload_n 0, 1) := by decide +kernel
theorem dJ3_checkBoundsOffCount_1 : decode cJ3_checkBoundsOffCount 1 = .ok (.iload_n 1, 1) := by decide +kernel
theorem dJ3_checkBoundsOffCount_2 : decode cJ3_checkBoundsOffCount 2 = .ok (.iload_n 2, 1) := by decide +kernel
theorem dJ3_checkBoundsOffCount_3 : decode cJ3_checkBoundsOffCount 3 = .ok (.getstatic 1053, 3) := by decide +kernel
theorem dJ2_stringSize_0 : decode cJ2_stringSize 0 = .ok (.iconst 1, 1) := by decide +kernel
theorem dJ2_stringSize_1 : decode cJ2_stringSize 1 = .ok (.istore_n 1, 1) := by decide +kernel
theorem dJ2_stringSize_2 : decode cJ2_stringSize 2 = .ok (.iload_n 0, 1) := by decide +kernel
theorem dJ2_stringSize_3 : decode cJ2_stringSize 3 = .ok (.ifCond .lt 8, 3) := by decide +kernel
theorem dJ2_stringSize_6 : decode cJ2_stringSize 6 = .ok (.iconst 0, 1) := by decide +kernel
theorem dJ2_stringSize_7 : decode cJ2_stringSize 7 = .ok (.istore_n 1, 1) := by decide +kernel
theorem dJ2_stringSize_8 : decode cJ2_stringSize 8 = .ok (.iload_n 0, 1) := by decide +kernel
theorem dJ2_stringSize_9 : decode cJ2_stringSize 9 = .ok (.ineg, 1) := by decide +kernel
theorem dJ2_stringSize_10 : decode cJ2_stringSize 10 = .ok (.istore_n 0, 1) := by decide +kernel
theorem dJ2_stringSize_11 : decode cJ2_stringSize 11 = .ok (.bipush (-10), 2) := by decide +kernel
theorem dJ2_stringSize_13 : decode cJ2_stringSize 13 = .ok (.istore_n 2, 1) := by decide +kernel
theorem dJ2_stringSize_14 : decode cJ2_stringSize 14 = .ok (.iconst 1, 1) := by decide +kernel
theorem dJ2_stringSize_15 : decode cJ2_stringSize 15 = .ok (.istore_n 3, 1) := by decide +kernel
theorem dJ2_stringSize_16 : decode cJ2_stringSize 16 = .ok (.iload_n 3, 1) := by decide +kernel
theorem dJ2_stringSize_17 : decode cJ2_stringSize 17 = .ok (.bipush 10, 2) := by decide +kernel
theorem dJ2_stringSize_19 : decode cJ2_stringSize 19 = .ok (.if_icmp .ge 23, 3) := by decide +kernel
theorem dJ2_stringSize_22 : decode cJ2_stringSize 22 = .ok (.iload_n 0, 1) := by decide +kernel
theorem dJ2_stringSize_23 : decode cJ2_stringSize 23 = .ok (.iload_n 2, 1) := by decide +kernel
theorem dJ2_stringSize_24 : decode cJ2_stringSize 24 = .ok (.if_icmp .le 7, 3) := by decide +kernel
theorem dJ2_stringSize_27 : decode cJ2_stringSize 27 = .ok (.iload_n 3, 1) := by decide +kernel
theorem dJ2_stringSize_28 : decode cJ2_stringSize 28 = .ok (.iload_n 1, 1) := by decide +kernel
theorem dJ2_stringSize_29 : decode cJ2_stringSize 29 = .ok (.iadd, 1) := by decide +kernel
theorem dJ2_stringSize_30 : decode cJ2_stringSize 30 = .ok (.ireturn, 1) := by decide +kernel
theorem dJ2_stringSize_31 : decode cJ2_stringSize 31 = .ok (.bipush 10, 2) := by decide +kernel
theorem dJ2_stringSize_33 : decode cJ2_stringSize 33 = .ok (.iload_n 2, 1) := by decide +kernel
theorem dJ2_stringSize_34 : decode cJ2_stringSize 34 = .ok (.imul, 1) := by decide +kernel
theorem dJ2_stringSize_35 : decode cJ2_stringSize 35 = .ok (.istore_n 2, 1) := by decide +kernel
theorem dJ2_stringSize_36 : decode cJ2_stringSize 36 = .ok (.iinc 3 1, 3) := by decide +kernel
theorem dJ2_stringSize_39 : decode cJ2_stringSize 39 = .ok (.goto (-23), 3) := by decide +kernel
theorem dJ2_stringSize_42 : decode cJ2_stringSize 42 = .ok (.bipush 10, 2) := by decide +kernel
theorem dJ2_stringSize_44 : decode cJ2_stringSize 44 = .ok (.iload_n 1, 1) := by decide +kernel
theorem dJ2_stringSize_45 : decode cJ2_stringSize 45 = .ok (.iadd, 1) := by decide +kernel
theorem dJ2_stringSize_46 : decode cJ2_stringSize 46 = .ok (.ireturn, 1) := by decide +kernel
theorem dJ4_canEncode_0 : decode cJ4_canEncode 0 = .ok (.iload_n 0, 1) := by decide +kernel
theorem dJ4_canEncode_1 : decode cJ4_canEncode 1 = .ok (.sipush 255, 3) := by decide +kernel
theorem dJ4_canEncode_4 : decode cJ4_canEncode 4 = .ok (.if_icmp .gt 7, 3) := by decide +kernel
theorem dJ4_canEncode_7 : decode cJ4_canEncode 7 = .ok (.iconst 1, 1) := by decide +kernel
theorem dJ4_canEncode_8 : decode cJ4_canEncode 8 = .ok (.goto 4, 3) := by decide +kernel
theorem dJ4_canEncode_11 : decode cJ4_canEncode 11 = .ok (.iconst 0, 1) := by decide +kernel
theorem dJ4_canEncode_12 : decode cJ4_canEncode 12 = .ok (.ireturn, 1) := by decide +kernel
theorem dJ3_checkIndex_0 : decode cJ3_checkIndex 0 = .ok (.iload_n 0, 1) := by decide +kernel
theorem dJ3_checkIndex_1 : decode cJ3_checkIndex 1 = .ok (.iload_n 1, 1) := by decide +kernel
theorem dJ3_checkIndex_2 : decode cJ3_checkIndex 2 = .ok (.getstatic 1053, 3) := by decide +kernel
theorem dK5_init_0 : decode cK5_init 0 = .ok (.aload_n 0, 1) := by decide +kernel
theorem dK5_init_1 : decode cK5_init 1 = .ok (.invokespecial 1, 3) := by decide +kernel
theorem dK5_init_4 : decode cK5_init 4 = .ok (.aload_n 0, 1) := by decide +kernel
theorem dK5_init_5 : decode cK5_init 5 = .ok (.sipush 864, 3) := by decide +kernel
theorem dK5_init_8 : decode cK5_init 8 = .ok (.newarray .boolean, 2) := by decide +kernel
theorem dK5_init_10 : decode cK5_init 10 = .ok (.putfield 7, 3) := by decide +kernel
theorem dK5_init_13 : decode cK5_init 13 = .ok (.aload_n 0, 1) := by decide +kernel
theorem dK5_init_14 : decode cK5_init 14 = .ok (.sipush 864, 3) := by decide +kernel
theorem dK5_init_17 : decode cK5_init 17 = .ok (.newarray .boolean, 2) := by decide +kernel
theorem dK5_init_19 : decode cK5_init 19 = .ok (.putfield 13, 3) := by decide +kernel
theorem dK5_init_22 : decode cK5_init 22 = .ok (.aload_n 0, 1) := by decide +kernel
theorem dK5_init_23 : decode cK5_init 23 = .ok (.bipush 10, 2) := by decide +kernel
theorem dK5_init_25 : decode cK5_init 25 = .ok (.newarray .int, 2) := by decide +kernel
theorem dK5_init_27 : decode cK5_init 27 = .ok (.putfield 16, 3) := by decide +kernel
theorem dK5_init_30 : decode cK5_init 30 = .ok (.aload_n 0, 1) := by decide +kernel
theorem dK5_init_31 : decode cK5_init 31 = .ok (.bipush 10, 2) := by decide +kernel
theorem dK5_init_33 : decode cK5_init 33 = .ok (.newarray .int, 2) := by decide +kernel
theorem dK5_init_35 : decode cK5_init 35 = .ok (.putfield 20, 3) := by decide +kernel
theorem dK5_init_38 : decode cK5_init 38 = .ok (.aload_n 0, 1) := by decide +kernel
theorem dK5_init_39 : decode cK5_init 39 = .ok (.bipush 10, 2) := by decide +kernel
theorem dK5_init_41 : decode cK5_init 41 = .ok (.newarray .int, 2) := by decide +kernel
theorem dK5_init_43 : decode cK5_init 43 = .ok (.putfield 23, 3) := by decide +kernel
theorem dK5_init_46 : decode cK5_init 46 = .ok (.aload_n 0, 1) := by decide +kernel
theorem dK5_init_47 : decode cK5_init 47 = .ok (.bipush 10, 2) := by decide +kernel
theorem dK5_init_49 : decode cK5_init 49 = .ok (.newarray .int, 2) := by decide +kernel
theorem dK5_init_51 : decode cK5_init 51 = .ok (.putfield 26, 3) := by decide +kernel
theorem dK5_init_54 : decode cK5_init 54 = .ok (.aload_n 0, 1) := by decide +kernel
theorem dK5_init_55 : decode cK5_init 55 = .ok (.bipush 12, 2) := by decide +kernel
theorem dK5_init_57 : decode cK5_init 57 = .ok (.newarray .boolean, 2) := by decide +kernel
theorem dK5_init_59 : decode cK5_init 59 = .ok (.putfield 29, 3) := by decide +kernel
theorem dK5_init_62 : decode cK5_init 62 = .ok (.aload_n 0, 1) := by decide +kernel
theorem dK5_init_63 : decode cK5_init 63 = .ok (.bipush 12, 2) := by decide +kernel
theorem dK5_init_65 : decode cK5_init 65 = .ok (.newarray .int, 2) := by decide +kernel
theorem dK5_init_67 : decode cK5_init 67 = .ok (.putfield 32, 3) := by decide +kernel
theorem dK5_init_70 : decode cK5_init 70 = .ok (.aload_n 0, 1) := by decide +kernel
theorem dK5_init_71 : decode cK5_init 71 = .ok (.bipush 12, 2) := by decide +kernel
theorem dK5_init_73 : decode cK5_init 73 = .ok (.newarray .int, 2) := by decide +kernel
theorem dK5_init_75 : decode cK5_init 75 = .ok (.putfield 35, 3) := by decide +kernel
theorem dK5_init_78 : decode cK5_init 78 = .ok (.aload_n 0, 1) := by decide +kernel
theorem dK5_init_79 : decode cK5_init 79 = .ok (.sipush 500, 3) := by decide +kernel
theorem dK5_init_82 : decode cK5_init 82 = .ok (.putfield 38, 3) := by decide +kernel
theorem dK5_init_85 : decode cK5_init 85 = .ok (.aload_n 0, 1) := by decide +kernel
theorem dK5_init_86 : decode cK5_init 86 = .ok (.bipush 31, 2) := by decide +kernel
theorem dK5_init_88 : decode cK5_init 88 = .ok (.newarray .int, 2) := by decide +kernel
theorem dK5_init_90 : decode cK5_init 90 = .ok (.putfield 42, 3) := by decide +kernel
theorem dK5_init_93 : decode cK5_init 93 = .ok (.aload_n 0, 1) := by decide +kernel
theorem dK5_init_94 : decode cK5_init 94 = .ok (.bipush 12, 2) := by decide +kernel
theorem dK5_init_96 : decode cK5_init 96 = .ok (.newarray .int, 2) := by decide +kernel
theorem dK5_init_98 : decode cK5_init 98 = .ok (.putfield 45, 3) := by decide +kernel
theorem dK5_init_101 : decode cK5_init 101 = .ok (.aload_n 0, 1) := by decide +kernel
theorem dK5_init_102 : decode cK5_init 102 = .ok (.bipush 12, 2) := by decide +kernel
theorem dK5_init_104 : decode cK5_init 104 = .ok (.newarray .boolean, 2) := by decide +kernel
theorem dK5_init_106 : decode cK5_init 106 = .ok (.putfield 48, 3) := by decide +kernel
theorem dK5_init_109 : decode cK5_init 109 = .ok (.aload_n 0, 1) := by decide +kernel
theorem dK5_init_110 : decode cK5_init 110 = .ok (.bipush 12, 2) := by decide +kernel
theorem dK5_init_112 : decode cK5_init 112 = .ok (.newarray .int, 2) := by decide +kernel
theorem dK5_init_114 : decode cK5_init 114 = .ok (.putfield 51, 3) := by decide +kernel
theorem dK5_init_117 : decode cK5_init 117 = .ok (.aload_n 0, 1) := by decide +kernel
theorem dK5_init_118 : decode cK5_init 118 = .ok (.sipush 400, 3) := by decide +kernel
theorem dK5_init_121 : decode cK5_init 121 = .ok (.newarray .int, 2) := by decide +kernel
theorem dK5_init_123 : decode cK5_init 123 = .ok (.putfield 54, 3) := by decide +kernel
theorem dK5_init_126 : decode cK5_init 126 = .ok (.aload_n 0, 1) := by decide +kernel
theorem dK5_init_127 : decode cK5_init 127 = .ok (.iconst 0, 1) := by decide +kernel
theorem dK5_init_128 : decode cK5_init 128 = .ok (.putfield 57, 3) := by decide +kernel
theorem dK5_init_131 : decode cK5_init 131 = .ok (.return_, 1) := by decide +kernel
theorem dK5_triple_0 : decode cK5_triple 0 = .ok (.iload_n 1, 1) := by decide +kernel
theorem dK5_triple_1 : decode cK5_triple 1 = .ok (.iload_n 2, 1) := by decide +kernel
theorem dK5_triple_2 : decode cK5_triple 2 = .ok (.iload_n 3, 1) := by decide +kernel
theorem dK5_triple_3 : decode cK5_triple 3 = .ok (.invokestatic 65, 3) := by decide +kernel
theorem dK5_triple_6 : decode cK5_triple 6 = .ok (.ifCond .ne 5, 3) := by decide +kernel
theorem dK5_triple_9 : decode cK5_triple 9 = .ok (.iconst (-1), 1) := by decide +kernel
theorem dK5_triple_10 : decode cK5_triple 10 = .ok (.ireturn, 1) := by decide +kernel
theorem dK5_triple_11 : decode cK5_triple 11 = .ok (.aload_n 0, 1) := by decide +kernel
theorem dK5_triple_12 : decode cK5_triple 12 = .ok (.getfield 7, 3) := by decide +kernel
theorem dK5_triple_15 : decode cK5_triple 15 = .ok (.iload_n 1, 1) := by decide +kernel
theorem dK5_triple_16 : decode cK5_triple 16 = .ok (.iload_n 2, 1) := by decide +kernel
theorem dK5_triple_17 : decode cK5_triple 17 = .ok (.iload_n 3, 1) := by decide +kernel
theorem dK5_triple_18 : decode cK5_triple 18 = .ok (.invokestatic 68, 3) := by decide +kernel
theorem dK5_triple_21 : decode cK5_triple 21 = .ok (.baload, 1) := by decide +kernel
theorem dK5_triple_22 : decode cK5_triple 22 = .ok (.istore 4, 2) := by decide +kernel
theorem dK5_triple_24 : decode cK5_triple 24 = .ok (.aload_n 0, 1) := by decide +kernel
theorem dK5_triple_25 : decode cK5_triple 25 = .ok (.getfield 7, 3) := by decide +kernel
theorem dK5_triple_28 : decode cK5_triple 28 = .ok (.iload_n 1, 1) := by decide +kernel
theorem dK5_triple_29 : decode cK5_triple 29 = .ok (.iload_n 2, 1) := by decide +kernel
theorem dK5_triple_30 : decode cK5_triple 30 = .ok (.iload_n 3, 1) := by decide +kernel
theorem dK5_triple_31 : decode cK5_triple 31 = .ok (.invokestatic 68, 3) := by decide +kernel
theorem dK5_triple_34 : decode cK5_triple 34 = .ok (.iconst 1, 1) := by decide +kernel
theorem dK5_triple_35 : decode cK5_triple 35 = .ok (.bastore, 1) := by decide +kernel
theorem dK5_triple_36 : decode cK5_triple 36 = .ok (.iload 4, 2) := by decide +kernel
theorem dK5_triple_38 : decode cK5_triple 38 = .ok (.ifCond .eq 7, 3) := by decide +kernel
theorem dK5_triple_41 : decode cK5_triple 41 = .ok (.iconst 0, 1) := by decide +kernel
theorem dK5_triple_42 : decode cK5_triple 42 = .ok (.goto 4, 3) := by decide +kernel
theorem dK5_triple_45 : decode cK5_triple 45 = .ok (.iconst 1, 1) := by decide +kernel
theorem dK5_triple_46 : decode cK5_triple 46 = .ok (.ireturn, 1) := by decide +kernel
theorem dK5_isTriple_0 : decode cK5_isTriple 0 = .ok (.iload_n 0, 1) := by decide +kernel
theorem dK5_isTriple_1 : decode cK5_isTriple 1 = .ok (.iconst 0, 1) := by decide +kernel
theorem dK5_isTriple_2 : decode cK5_isTriple 2 = .ok (.bipush 11, 2) := by decide +kernel
theorem dK5_isTriple_4 : decode cK5_isTriple 4 = .ok (.invokestatic 61, 3) := by decide +kernel
theorem dK5_isTriple_7 : decode cK5_isTriple 7 = .ok (.ifCond .eq 26, 3) := by decide +kernel
theorem dK5_isTriple_10 : decode cK5_isTriple 10 = .ok (.iload_n 1, 1) := by decide +kernel
theorem dK5_isTriple_11 : decode cK5_isTriple 11 = .ok (.iconst 0, 1) := by decide +kernel
theorem dK5_isTriple_12 : decode cK5_isTriple 12 = .ok (.iconst 5, 1) := by decide +kernel
theorem dK5_isTriple_13 : decode cK5_isTriple 13 = .ok (.invokestatic 61, 3) := by decide +kernel
theorem dK5_isTriple_16 : decode cK5_isTriple 16 = .ok (.ifCond .eq 17, 3) := by decide +kernel
theorem dK5_isTriple_19 : decode cK5_isTriple 19 = .ok (.iload_n 2, 1) := by decide +kernel
theorem dK5_isTriple_20 : decode cK5_isTriple 20 = .ok (.iconst 0, 1) := by decide +kernel
theorem dK5_isTriple_21 : decode cK5_isTriple 21 = .ok (.bipush 11, 2) := by decide +kernel
theorem dK5_isTriple_23 : decode cK5_isTriple 23 = .ok (.invokestatic 61, 3) := by decide +kernel
theorem dK5_isTriple_26 : decode cK5_isTriple 26 = .ok (.ifCond .eq 7, 3) := by decide +kernel
theorem dK5_isTriple_29 : decode cK5_isTriple 29 = .ok (.iconst 1, 1) := by decide +kernel
theorem dK5_isTriple_30 : decode cK5_isTriple 30 = .ok (.goto 4, 3) := by decide +kernel
theorem dK5_isTriple_33 : decode cK5_isTriple 33 = .ok (.iconst 0, 1) := by decide +kernel
theorem dK5_isTriple_34 : decode cK5_isTriple 34 = .ok (.ireturn, 1) := by decide +kernel
theorem dK5_in_0 : decode cK5_in 0 = .ok (.iload_n 0, 1) := by decide +kernel
theorem dK5_in_1 : decode cK5_in 1 = .ok (.iload_n 1, 1) := by decide +kernel
theorem dK5_in_2 : decode cK5_in 2 = .ok (.if_icmp .lt 12, 3) := by decide +kernel
theorem dK5_in_5 : decode cK5_in 5 = .ok (.iload_n 0, 1) := by decide +kernel
theorem dK5_in_6 : decode cK5_in 6 = .ok (.iload_n 2, 1) := by decide +kernel
theorem dK5_in_7 : decode cK5_in 7 = .ok (.if_icmp .gt 7, 3) := by decide +kernel
theorem dK5_in_10 : decode cK5_in 10 = .ok (.iconst 1, 1) := by decide +kernel
theorem dK5_in_11 : decode cK5_in 11 = .ok (.goto 4, 3) := by decide +kernel
theorem dK5_in_14 : decode cK5_in 14 = .ok (.iconst 0, 1) := by decide +kernel
theorem dK5_in_15 : decode cK5_in 15 = .ok (.ireturn, 1) := by decide +kernel
theorem dK5_codeOf_0 : decode cK5_codeOf 0 = .ok (.bipush 72, 2) := by decide +kernel
theorem dK5_codeOf_2 : decode cK5_codeOf 2 = .ok (.iload_n 0, 1) := by decide +kernel
theorem dK5_codeOf_3 : decode cK5_codeOf 3 = .ok (.imul, 1) := by decide +kernel
theorem dK5_codeOf_4 : decode cK5_codeOf 4 = .ok (.bipush 12, 2) := by decide +kernel
theorem dK5_codeOf_6 : decode cK5_codeOf 6 = .ok (.iload_n 1, 1) := by decide +kernel
theorem dK5_codeOf_7 : decode cK5_codeOf 7 = .ok (.imul, 1) := by decide +kernel
theorem dK5_codeOf_8 : decode cK5_codeOf 8 = .ok (.iadd, 1) := by decide +kernel
theorem dK5_codeOf_9 : decode cK5_codeOf 9 = .ok (.iload_n 2, 1) := by decide +kernel
theorem dK5_codeOf_10 : decode cK5_codeOf 10 = .ok (.iadd, 1) := by decide +kernel
theorem dK5_codeOf_11 : decode cK5_codeOf 11 = .ok (.ireturn, 1) := by decide +kernel
theorem dK5_drop_0 : decode cK5_drop 0 = .ok (.iload_n 1, 1) := by decide +kernel
theorem dK5_drop_1 : decode cK5_drop 1 = .ok (.iload_n 2, 1) := by decide +kernel
theorem dK5_drop_2 : decode cK5_drop 2 = .ok (.iload_n 3, 1) := by decide +kernel
theorem dK5_drop_3 : decode cK5_drop 3 = .ok (.invokestatic 65, 3) := by decide +kernel
theorem dK5_drop_6 : decode cK5_drop 6 = .ok (.ifCond .ne 5, 3) := by decide +kernel
theorem dK5_drop_9 : decode cK5_drop 9 = .ok (.iconst (-1), 1) := by decide +kernel
theorem dK5_drop_10 : decode cK5_drop 10 = .ok (.ireturn, 1) := by decide +kernel
theorem dK5_drop_11 : decode cK5_drop 11 = .ok (.aload_n 0, 1) := by decide +kernel
theorem dK5_drop_12 : decode cK5_drop 12 = .ok (.getfield 7, 3) := by decide +kernel
theorem dK5_drop_15 : decode cK5_drop 15 = .ok (.iload_n 1, 1) := by decide +kernel
theorem dK5_drop_16 : decode cK5_drop 16 = .ok (.iload_n 2, 1) := by decide +kernel
theorem dK5_drop_17 : decode cK5_drop 17 = .ok (.iload_n 3, 1) := by decide +kernel
theorem dK5_drop_18 : decode cK5_drop 18 = .ok (.invokestatic 68, 3) := by decide +kernel
theorem dK5_drop_21 : decode cK5_drop 21 = .ok (.baload, 1) := by decide +kernel
theorem dK5_drop_22 : decode cK5_drop 22 = .ok (.istore 4, 2) := by decide +kernel
theorem dK5_drop_24 : decode cK5_drop 24 = .ok (.aload_n 0, 1) := by decide +kernel
theorem dK5_drop_25 : decode cK5_drop 25 = .ok (.getfield 7, 3) := by decide +kernel
theorem dK5_drop_28 : decode cK5_drop 28 = .ok (.iload_n 1, 1) := by decide +kernel
theorem dK5_drop_29 : decode cK5_drop 29 = .ok (.iload_n 2, 1) := by decide +kernel
theorem dK5_drop_30 : decode cK5_drop 30 = .ok (.iload_n 3, 1) := by decide +kernel
theorem dK5_drop_31 : decode cK5_drop 31 = .ok (.invokestatic 68, 3) := by decide +kernel
theorem dK5_drop_34 : decode cK5_drop 34 = .ok (.iconst 0, 1) := by decide +kernel
theorem dK5_drop_35 : decode cK5_drop 35 = .ok (.bastore, 1) := by decide +kernel
theorem dK5_drop_36 : decode cK5_drop 36 = .ok (.iload 4, 2) := by decide +kernel
theorem dK5_drop_38 : decode cK5_drop 38 = .ok (.ifCond .eq 7, 3) := by decide +kernel
theorem dK5_drop_41 : decode cK5_drop 41 = .ok (.iconst 1, 1) := by decide +kernel
theorem dK5_drop_42 : decode cK5_drop 42 = .ok (.goto 4, 3) := by decide +kernel
theorem dK5_drop_45 : decode cK5_drop 45 = .ok (.iconst 0, 1) := by decide +kernel
theorem dK5_drop_46 : decode cK5_drop 46 = .ok (.ireturn, 1) := by decide +kernel
theorem dK5_rule_0 : decode cK5_rule 0 = .ok (.iload_n 1, 1) := by decide +kernel
theorem dK5_rule_1 : decode cK5_rule 1 = .ok (.iconst 2, 1) := by decide +kernel
theorem dK5_rule_2 : decode cK5_rule 2 = .ok (.if_icmp .ge 8, 3) := by decide +kernel
theorem dK5_rule_5 : decode cK5_rule 5 = .ok (.bipush 12, 2) := by decide +kernel
theorem dK5_rule_7 : decode cK5_rule 7 = .ok (.goto 14, 3) := by decide +kernel
theorem dK5_rule_10 : decode cK5_rule 10 = .ok (.iload_n 1, 1) := by decide +kernel
theorem dK5_rule_11 : decode cK5_rule 11 = .ok (.iconst 4, 1) := by decide +kernel
theorem dK5_rule_12 : decode cK5_rule 12 = .ok (.if_icmp .ge 8, 3) := by decide +kernel
theorem dK5_rule_15 : decode cK5_rule 15 = .ok (.bipush 11, 2) := by decide +kernel
theorem dK5_rule_17 : decode cK5_rule 17 = .ok (.goto 4, 3) := by decide +kernel
theorem dK5_rule_20 : decode cK5_rule 20 = .ok (.iconst 5, 1) := by decide +kernel
theorem dK5_rule_21 : decode cK5_rule 21 = .ok (.istore 5, 2) := by decide +kernel
theorem dK5_rule_23 : decode cK5_rule 23 = .ok (.iload_n 1, 1) := by decide +kernel
theorem dK5_rule_24 : decode cK5_rule 24 = .ok (.iconst 0, 1) := by decide +kernel
theorem dK5_rule_25 : decode cK5_rule 25 = .ok (.iconst 5, 1) := by decide +kernel
theorem dK5_rule_26 : decode cK5_rule 26 = .ok (.invokestatic 61, 3) := by decide +kernel
theorem dK5_rule_29 : decode cK5_rule 29 = .ok (.ifCond .eq 33, 3) := by decide +kernel
end
section
theorem dK5_rule_32 : decode cK5_rule 32 = .ok (.iload_n 2, 1) := by decide +kernel
theorem dK5_rule_33 : decode cK5_rule 33 = .ok (.iconst 0, 1) := by decide +kernel
theorem dK5_rule_34 : decode cK5_rule 34 = .ok (.bipush 11, 2) := by decide +kernel
theorem dK5_rule_36 : decode cK5_rule 36 = .ok (.invokestatic 61, 3) := by decide +kernel
theorem dK5_rule_39 : decode cK5_rule 39 = .ok (.ifCond .eq 23, 3) := by decide +kernel
theorem dK5_rule_42 : decode cK5_rule 42 = .ok (.iload_n 3, 1) := by decide +kernel
theorem dK5_rule_43 : decode cK5_rule 43 = .ok (.iconst 0, 1) := by decide +kernel
theorem dK5_rule_44 : decode cK5_rule 44 = .ok (.iconst 5, 1) := by decide +kernel
theorem dK5_rule_45 : decode cK5_rule 45 = .ok (.invokestatic 61, 3) := by decide +kernel
theorem dK5_rule_48 : decode cK5_rule 48 = .ok (.ifCond .eq 14, 3) := by decide +kernel
theorem dK5_rule_51 : decode cK5_rule 51 = .ok (.iload 4, 2) := by decide +kernel
theorem dK5_rule_53 : decode cK5_rule 53 = .ok (.iconst 0, 1) := by decide +kernel
theorem dK5_rule_54 : decode cK5_rule 54 = .ok (.iload 5, 2) := by decide +kernel
theorem dK5_rule_56 : decode cK5_rule 56 = .ok (.invokestatic 61, 3) := by decide +kernel
theorem dK5_rule_59 : decode cK5_rule 59 = .ok (.ifCond .ne 5, 3) := by decide +kernel
theorem dK5_rule_62 : decode cK5_rule 62 = .ok (.iconst (-1), 1) := by decide +kernel
theorem dK5_rule_63 : decode cK5_rule 63 = .ok (.ireturn, 1) := by decide +kernel
theorem dK5_rule_64 : decode cK5_rule 64 = .ok (.aload_n 0, 1) := by decide +kernel
theorem dK5_rule_65 : decode cK5_rule 65 = .ok (.getfield 72, 3) := by decide +kernel
theorem dK5_rule_68 : decode cK5_rule 68 = .ok (.bipush 10, 2) := by decide +kernel
theorem dK5_rule_70 : decode cK5_rule 70 = .ok (.if_icmp .ne 6, 3) := by decide +kernel
theorem dK5_rule_73 : decode cK5_rule 73 = .ok (.bipush (-3), 2) := by decide +kernel
theorem dK5_rule_75 : decode cK5_rule 75 = .ok (.ireturn, 1) := by decide +kernel
theorem dK5_rule_76 : decode cK5_rule 76 = .ok (.aload_n 0, 1) := by decide +kernel
theorem dK5_rule_77 : decode cK5_rule 77 = .ok (.getfield 16, 3) := by decide +kernel
theorem dK5_rule_80 : decode cK5_rule 80 = .ok (.aload_n 0, 1) := by decide +kernel
theorem dK5_rule_81 : decode cK5_rule 81 = .ok (.getfield 72, 3) := by decide +kernel
theorem dK5_rule_84 : decode cK5_rule 84 = .ok (.iload_n 1, 1) := by decide +kernel
theorem dK5_rule_85 : decode cK5_rule 85 = .ok (.iastore, 1) := by decide +kernel
theorem dK5_rule_86 : decode cK5_rule 86 = .ok (.aload_n 0, 1) := by decide +kernel
theorem dK5_rule_87 : decode cK5_rule 87 = .ok (.getfield 20, 3) := by decide +kernel
theorem dK5_rule_90 : decode cK5_rule 90 = .ok (.aload_n 0, 1) := by decide +kernel
theorem dK5_rule_91 : decode cK5_rule 91 = .ok (.getfield 72, 3) := by decide +kernel
theorem dK5_rule_94 : decode cK5_rule 94 = .ok (.iload_n 2, 1) := by decide +kernel
theorem dK5_rule_95 : decode cK5_rule 95 = .ok (.iastore, 1) := by decide +kernel
theorem dK5_rule_96 : decode cK5_rule 96 = .ok (.aload_n 0, 1) := by decide +kernel
theorem dK5_rule_97 : decode cK5_rule 97 = .ok (.getfield 23, 3) := by decide +kernel
theorem dK5_rule_100 : decode cK5_rule 100 = .ok (.aload_n 0, 1) := by decide +kernel
theorem dK5_rule_101 : decode cK5_rule 101 = .ok (.getfield 72, 3) := by decide +kernel
theorem dK5_rule_104 : decode cK5_rule 104 = .ok (.iload_n 3, 1) := by decide +kernel
theorem dK5_rule_105 : decode cK5_rule 105 = .ok (.iastore, 1) := by decide +kernel
theorem dK5_rule_106 : decode cK5_rule 106 = .ok (.aload_n 0, 1) := by decide +kernel
theorem dK5_rule_107 : decode cK5_rule 107 = .ok (.getfield 26, 3) := by decide +kernel
theorem dK5_rule_110 : decode cK5_rule 110 = .ok (.aload_n 0, 1) := by decide +kernel
theorem dK5_rule_111 : decode cK5_rule 111 = .ok (.getfield 72, 3) := by decide +kernel
theorem dK5_rule_114 : decode cK5_rule 114 = .ok (.iload 4, 2) := by decide +kernel
theorem dK5_rule_116 : decode cK5_rule 116 = .ok (.iastore, 1) := by decide +kernel
theorem dK5_rule_117 : decode cK5_rule 117 = .ok (.aload_n 0, 1) := by decide +kernel
theorem dK5_rule_118 : decode cK5_rule 118 = .ok (.dup, 1) := by decide +kernel
theorem dK5_rule_119 : decode cK5_rule 119 = .ok (.getfield 72, 3) := by decide +kernel
theorem dK5_rule_122 : decode cK5_rule 122 = .ok (.iconst 1, 1) := by decide +kernel
theorem dK5_rule_123 : decode cK5_rule 123 = .ok (.iadd, 1) := by decide +kernel
theorem dK5_rule_124 : decode cK5_rule 124 = .ok (.putfield 72, 3) := by decide +kernel
theorem dK5_rule_127 : decode cK5_rule 127 = .ok (.aload_n 0, 1) := by decide +kernel
theorem dK5_rule_128 : decode cK5_rule 128 = .ok (.getfield 72, 3) := by decide +kernel
theorem dK5_rule_131 : decode cK5_rule 131 = .ok (.iconst 1, 1) := by decide +kernel
theorem dK5_rule_132 : decode cK5_rule 132 = .ok (.isub, 1) := by decide +kernel
theorem dK5_rule_133 : decode cK5_rule 133 = .ok (.ireturn, 1) := by decide +kernel
theorem dK5_results_0 : decode cK5_results 0 = .ok (.aload_n 0, 1) := by decide +kernel
theorem dK5_results_1 : decode cK5_results 1 = .ok (.iconst 0, 1) := by decide +kernel
theorem dK5_results_2 : decode cK5_results 2 = .ok (.invokevirtual 88, 3) := by decide +kernel
theorem dK5_results_5 : decode cK5_results 5 = .ok (.aload_n 0, 1) := by decide +kernel
theorem dK5_results_6 : decode cK5_results 6 = .ok (.invokevirtual 92, 3) := by decide +kernel
theorem dK5_results_9 : decode cK5_results 9 = .ok (.ireturn, 1) := by decide +kernel
theorem dK5_begin_0 : decode cK5_begin 0 = .ok (.iconst 0, 1) := by decide +kernel
theorem dK5_begin_1 : decode cK5_begin 1 = .ok (.istore_n 2, 1) := by decide +kernel
theorem dK5_begin_2 : decode cK5_begin 2 = .ok (.iload_n 2, 1) := by decide +kernel
theorem dK5_begin_3 : decode cK5_begin 3 = .ok (.sipush 864, 3) := by decide +kernel
theorem dK5_begin_6 : decode cK5_begin 6 = .ok (.if_icmp .ge 21, 3) := by decide +kernel
theorem dK5_begin_9 : decode cK5_begin 9 = .ok (.aload_n 0, 1) := by decide +kernel
theorem dK5_begin_10 : decode cK5_begin 10 = .ok (.getfield 13, 3) := by decide +kernel
theorem dK5_begin_13 : decode cK5_begin 13 = .ok (.iload_n 2, 1) := by decide +kernel
theorem dK5_begin_14 : decode cK5_begin 14 = .ok (.aload_n 0, 1) := by decide +kernel
theorem dK5_begin_15 : decode cK5_begin 15 = .ok (.getfield 7, 3) := by decide +kernel
theorem dK5_begin_18 : decode cK5_begin 18 = .ok (.iload_n 2, 1) := by decide +kernel
theorem dK5_begin_19 : decode cK5_begin 19 = .ok (.baload, 1) := by decide +kernel
theorem dK5_begin_20 : decode cK5_begin 20 = .ok (.bastore, 1) := by decide +kernel
theorem dK5_begin_21 : decode cK5_begin 21 = .ok (.iinc 2 1, 3) := by decide +kernel
theorem dK5_begin_24 : decode cK5_begin 24 = .ok (.goto (-22), 3) := by decide +kernel
theorem dK5_begin_27 : decode cK5_begin 27 = .ok (.iconst 0, 1) := by decide +kernel
theorem dK5_begin_28 : decode cK5_begin 28 = .ok (.istore_n 2, 1) := by decide +kernel
theorem dK5_begin_29 : decode cK5_begin 29 = .ok (.iload_n 2, 1) := by decide +kernel
theorem dK5_begin_30 : decode cK5_begin 30 = .ok (.aload_n 0, 1) := by decide +kernel
theorem dK5_begin_31 : decode cK5_begin 31 = .ok (.getfield 75, 3) := by decide +kernel
theorem dK5_begin_34 : decode cK5_begin 34 = .ok (.if_icmp .ge 35, 3) := by decide +kernel
theorem dK5_begin_37 : decode cK5_begin 37 = .ok (.iload_n 1, 1) := by decide +kernel
theorem dK5_begin_38 : decode cK5_begin 38 = .ok (.iload_n 2, 1) := by decide +kernel
theorem dK5_begin_39 : decode cK5_begin 39 = .ok (.ishr, 1) := by decide +kernel
theorem dK5_begin_40 : decode cK5_begin 40 = .ok (.iconst 1, 1) := by decide +kernel
theorem dK5_begin_41 : decode cK5_begin 41 = .ok (.iand, 1) := by decide +kernel
theorem dK5_begin_42 : decode cK5_begin 42 = .ok (.iconst 1, 1) := by decide +kernel
theorem dK5_begin_43 : decode cK5_begin 43 = .ok (.if_icmp .ne 20, 3) := by decide +kernel
theorem dK5_begin_46 : decode cK5_begin 46 = .ok (.aload_n 0, 1) := by decide +kernel
theorem dK5_begin_47 : decode cK5_begin 47 = .ok (.getfield 13, 3) := by decide +kernel
theorem dK5_begin_50 : decode cK5_begin 50 = .ok (.aload_n 0, 1) := by decide +kernel
theorem dK5_begin_51 : decode cK5_begin 51 = .ok (.getfield 32, 3) := by decide +kernel
theorem dK5_begin_54 : decode cK5_begin 54 = .ok (.iload_n 2, 1) := by decide +kernel
theorem dK5_begin_55 : decode cK5_begin 55 = .ok (.iaload, 1) := by decide +kernel
theorem dK5_begin_56 : decode cK5_begin 56 = .ok (.aload_n 0, 1) := by decide +kernel
theorem dK5_begin_57 : decode cK5_begin 57 = .ok (.getfield 29, 3) := by decide +kernel
theorem dK5_begin_60 : decode cK5_begin 60 = .ok (.iload_n 2, 1) := by decide +kernel
theorem dK5_begin_61 : decode cK5_begin 61 = .ok (.baload, 1) := by decide +kernel
theorem dK5_begin_62 : decode cK5_begin 62 = .ok (.bastore, 1) := by decide +kernel
theorem dK5_begin_63 : decode cK5_begin 63 = .ok (.iinc 2 1, 3) := by decide +kernel
theorem dK5_begin_66 : decode cK5_begin 66 = .ok (.goto (-37), 3) := by decide +kernel
theorem dK5_begin_69 : decode cK5_begin 69 = .ok (.return_, 1) := by decide +kernel
theorem dK5_resultsNow_0 : decode cK5_resultsNow 0 = .ok (.iconst 0, 1) := by decide +kernel
theorem dK5_resultsNow_1 : decode cK5_resultsNow 1 = .ok (.istore_n 1, 1) := by decide +kernel
theorem dK5_resultsNow_2 : decode cK5_resultsNow 2 = .ok (.iconst 0, 1) := by decide +kernel
theorem dK5_resultsNow_3 : decode cK5_resultsNow 3 = .ok (.istore_n 2, 1) := by decide +kernel
theorem dK5_resultsNow_4 : decode cK5_resultsNow 4 = .ok (.iload_n 2, 1) := by decide +kernel
theorem dK5_resultsNow_5 : decode cK5_resultsNow 5 = .ok (.aload_n 0, 1) := by decide +kernel
theorem dK5_resultsNow_6 : decode cK5_resultsNow 6 = .ok (.getfield 72, 3) := by decide +kernel
theorem dK5_resultsNow_9 : decode cK5_resultsNow 9 = .ok (.if_icmp .ge 40, 3) := by decide +kernel
theorem dK5_resultsNow_12 : decode cK5_resultsNow 12 = .ok (.iconst 0, 1) := by decide +kernel
theorem dK5_resultsNow_13 : decode cK5_resultsNow 13 = .ok (.istore_n 3, 1) := by decide +kernel
theorem dK5_resultsNow_14 : decode cK5_resultsNow 14 = .ok (.iload_n 3, 1) := by decide +kernel
theorem dK5_resultsNow_15 : decode cK5_resultsNow 15 = .ok (.bipush 12, 2) := by decide +kernel
theorem dK5_resultsNow_17 : decode cK5_resultsNow 17 = .ok (.if_icmp .ge 26, 3) := by decide +kernel
theorem dK5_resultsNow_20 : decode cK5_resultsNow 20 = .ok (.iload_n 1, 1) := by decide +kernel
theorem dK5_resultsNow_21 : decode cK5_resultsNow 21 = .ok (.aload_n 0, 1) := by decide +kernel
theorem dK5_resultsNow_22 : decode cK5_resultsNow 22 = .ok (.iload_n 2, 1) := by decide +kernel
theorem dK5_resultsNow_23 : decode cK5_resultsNow 23 = .ok (.iload_n 3, 1) := by decide +kernel
theorem dK5_resultsNow_24 : decode cK5_resultsNow 24 = .ok (.invokevirtual 85, 3) := by decide +kernel
theorem dK5_resultsNow_27 : decode cK5_resultsNow 27 = .ok (.ifCond .eq 7, 3) := by decide +kernel
theorem dK5_resultsNow_30 : decode cK5_resultsNow 30 = .ok (.iconst 1, 1) := by decide +kernel
theorem dK5_resultsNow_31 : decode cK5_resultsNow 31 = .ok (.goto 4, 3) := by decide +kernel
theorem dK5_resultsNow_34 : decode cK5_resultsNow 34 = .ok (.iconst 0, 1) := by decide +kernel
theorem dK5_resultsNow_35 : decode cK5_resultsNow 35 = .ok (.iadd, 1) := by decide +kernel
theorem dK5_resultsNow_36 : decode cK5_resultsNow 36 = .ok (.istore_n 1, 1) := by decide +kernel
theorem dK5_resultsNow_37 : decode cK5_resultsNow 37 = .ok (.iinc 3 1, 3) := by decide +kernel
theorem dK5_resultsNow_40 : decode cK5_resultsNow 40 = .ok (.goto (-26), 3) := by decide +kernel
theorem dK5_resultsNow_43 : decode cK5_resultsNow 43 = .ok (.iinc 2 1, 3) := by decide +kernel
theorem dK5_resultsNow_46 : decode cK5_resultsNow 46 = .ok (.goto (-42), 3) := by decide +kernel
theorem dK5_resultsNow_49 : decode cK5_resultsNow 49 = .ok (.iload_n 1, 1) := by decide +kernel
theorem dK5_resultsNow_50 : decode cK5_resultsNow 50 = .ok (.ireturn, 1) := by decide +kernel
theorem dK5_isResult_0 : decode cK5_isResult 0 = .ok (.aload_n 0, 1) := by decide +kernel
theorem dK5_isResult_1 : decode cK5_isResult 1 = .ok (.iload_n 2, 1) := by decide +kernel
theorem dK5_isResult_2 : decode cK5_isResult 2 = .ok (.aload_n 0, 1) := by decide +kernel
theorem dK5_isResult_3 : decode cK5_isResult 3 = .ok (.getfield 20, 3) := by decide +kernel
theorem dK5_isResult_6 : decode cK5_isResult 6 = .ok (.iload_n 1, 1) := by decide +kernel
theorem dK5_isResult_7 : decode cK5_isResult 7 = .ok (.iaload, 1) := by decide +kernel
theorem dK5_isResult_8 : decode cK5_isResult 8 = .ok (.invokevirtual 78, 3) := by decide +kernel
theorem dK5_isResult_11 : decode cK5_isResult 11 = .ok (.ifCond .eq 16, 3) := by decide +kernel
theorem dK5_isResult_14 : decode cK5_isResult 14 = .ok (.aload_n 0, 1) := by decide +kernel
theorem dK5_isResult_15 : decode cK5_isResult 15 = .ok (.iload_n 1, 1) := by decide +kernel
theorem dK5_isResult_16 : decode cK5_isResult 16 = .ok (.iload_n 2, 1) := by decide +kernel
theorem dK5_isResult_17 : decode cK5_isResult 17 = .ok (.invokevirtual 82, 3) := by decide +kernel
theorem dK5_isResult_20 : decode cK5_isResult 20 = .ok (.ifCond .ne 7, 3) := by decide +kernel
theorem dK5_isResult_23 : decode cK5_isResult 23 = .ok (.iconst 1, 1) := by decide +kernel
theorem dK5_isResult_24 : decode cK5_isResult 24 = .ok (.goto 4, 3) := by decide +kernel
theorem dK5_isResult_27 : decode cK5_isResult 27 = .ok (.iconst 0, 1) := by decide +kernel
theorem dK5_isResult_28 : decode cK5_isResult 28 = .ok (.ireturn, 1) := by decide +kernel
theorem dK5_isOfNow_0 : decode cK5_isOfNow 0 = .ok (.iconst 0, 1) := by decide +kernel
theorem dK5_isOfNow_1 : decode cK5_isOfNow 1 = .ok (.istore_n 3, 1) := by decide +kernel
theorem dK5_isOfNow_2 : decode cK5_isOfNow 2 = .ok (.iload_n 3, 1) := by decide +kernel
theorem dK5_isOfNow_3 : decode cK5_isOfNow 3 = .ok (.bipush 12, 2) := by decide +kernel
theorem dK5_isOfNow_5 : decode cK5_isOfNow 5 = .ok (.if_icmp .ge 26, 3) := by decide +kernel
theorem dK5_isOfNow_8 : decode cK5_isOfNow 8 = .ok (.aload_n 0, 1) := by decide +kernel
theorem dK5_isOfNow_9 : decode cK5_isOfNow 9 = .ok (.getfield 48, 3) := by decide +kernel
theorem dK5_isOfNow_12 : decode cK5_isOfNow 12 = .ok (.iload_n 3, 1) := by decide +kernel
theorem dK5_isOfNow_13 : decode cK5_isOfNow 13 = .ok (.aload_n 0, 1) := by decide +kernel
theorem dK5_isOfNow_14 : decode cK5_isOfNow 14 = .ok (.getfield 13, 3) := by decide +kernel
theorem dK5_isOfNow_17 : decode cK5_isOfNow 17 = .ok (.iload_n 1, 1) := by decide +kernel
theorem dK5_isOfNow_18 : decode cK5_isOfNow 18 = .ok (.iconst 0, 1) := by decide +kernel
theorem dK5_isOfNow_19 : decode cK5_isOfNow 19 = .ok (.iload_n 3, 1) := by decide +kernel
theorem dK5_isOfNow_20 : decode cK5_isOfNow 20 = .ok (.invokestatic 68, 3) := by decide +kernel
theorem dK5_isOfNow_23 : decode cK5_isOfNow 23 = .ok (.baload, 1) := by decide +kernel
theorem dK5_isOfNow_24 : decode cK5_isOfNow 24 = .ok (.bastore, 1) := by decide +kernel
theorem dK5_isOfNow_25 : decode cK5_isOfNow 25 = .ok (.iinc 3 1, 3) := by decide +kernel
theorem dK5_isOfNow_28 : decode cK5_isOfNow 28 = .ok (.goto (-26), 3) := by decide +kernel
theorem dK5_isOfNow_31 : decode cK5_isOfNow 31 = .ok (.iconst 0, 1) := by decide +kernel
theorem dK5_isOfNow_32 : decode cK5_isOfNow 32 = .ok (.istore_n 3, 1) := by decide +kernel
theorem dK5_isOfNow_33 : decode cK5_isOfNow 33 = .ok (.iload_n 3, 1) := by decide +kernel
theorem dK5_isOfNow_34 : decode cK5_isOfNow 34 = .ok (.bipush 12, 2) := by decide +kernel
theorem dK5_isOfNow_36 : decode cK5_isOfNow 36 = .ok (.if_icmp .ge 89, 3) := by decide +kernel
theorem dK5_isOfNow_39 : decode cK5_isOfNow 39 = .ok (.iconst 0, 1) := by decide +kernel
theorem dK5_isOfNow_40 : decode cK5_isOfNow 40 = .ok (.istore 4, 2) := by decide +kernel
theorem dK5_isOfNow_42 : decode cK5_isOfNow 42 = .ok (.iload 4, 2) := by decide +kernel
theorem dK5_isOfNow_44 : decode cK5_isOfNow 44 = .ok (.bipush 12, 2) := by decide +kernel
theorem dK5_isOfNow_46 : decode cK5_isOfNow 46 = .ok (.if_icmp .ge 73, 3) := by decide +kernel
theorem dK5_isOfNow_49 : decode cK5_isOfNow 49 = .ok (.iconst 0, 1) := by decide +kernel
theorem dK5_isOfNow_50 : decode cK5_isOfNow 50 = .ok (.istore 5, 2) := by decide +kernel
theorem dK5_isOfNow_52 : decode cK5_isOfNow 52 = .ok (.iload 5, 2) := by decide +kernel
theorem dK5_isOfNow_54 : decode cK5_isOfNow 54 = .ok (.bipush 12, 2) := by decide +kernel
theorem dK5_isOfNow_56 : decode cK5_isOfNow 56 = .ok (.if_icmp .ge 57, 3) := by decide +kernel
theorem dK5_isOfNow_59 : decode cK5_isOfNow 59 = .ok (.aload_n 0, 1) := by decide +kernel
theorem dK5_isOfNow_60 : decode cK5_isOfNow 60 = .ok (.getfield 48, 3) := by decide +kernel
theorem dK5_isOfNow_63 : decode cK5_isOfNow 63 = .ok (.iload 4, 2) := by decide +kernel
theorem dK5_isOfNow_65 : decode cK5_isOfNow 65 = .ok (.baload, 1) := by decide +kernel
theorem dK5_isOfNow_66 : decode cK5_isOfNow 66 = .ok (.ifCond .eq 47, 3) := by decide +kernel
theorem dK5_isOfNow_69 : decode cK5_isOfNow 69 = .ok (.aload_n 0, 1) := by decide +kernel
theorem dK5_isOfNow_70 : decode cK5_isOfNow 70 = .ok (.getfield 48, 3) := by decide +kernel
theorem dK5_isOfNow_73 : decode cK5_isOfNow 73 = .ok (.iload 5, 2) := by decide +kernel
theorem dK5_isOfNow_75 : decode cK5_isOfNow 75 = .ok (.aload_n 0, 1) := by decide +kernel
theorem dK5_isOfNow_76 : decode cK5_isOfNow 76 = .ok (.getfield 48, 3) := by decide +kernel
theorem dK5_isOfNow_79 : decode cK5_isOfNow 79 = .ok (.iload 5, 2) := by decide +kernel
theorem dK5_isOfNow_81 : decode cK5_isOfNow 81 = .ok (.baload, 1) := by decide +kernel
theorem dK5_isOfNow_82 : decode cK5_isOfNow 82 = .ok (.ifCond .ne 19, 3) := by decide +kernel
theorem dK5_isOfNow_85 : decode cK5_isOfNow 85 = .ok (.aload_n 0, 1) := by decide +kernel
theorem dK5_isOfNow_86 : decode cK5_isOfNow 86 = .ok (.getfield 13, 3) := by decide +kernel
theorem dK5_isOfNow_89 : decode cK5_isOfNow 89 = .ok (.iload 4, 2) := by decide +kernel
theorem dK5_isOfNow_91 : decode cK5_isOfNow 91 = .ok (.iconst 1, 1) := by decide +kernel
theorem dK5_isOfNow_92 : decode cK5_isOfNow 92 = .ok (.iload 5, 2) := by decide +kernel
theorem dK5_isOfNow_94 : decode cK5_isOfNow 94 = .ok (.invokestatic 68, 3) := by decide +kernel
theorem dK5_isOfNow_97 : decode cK5_isOfNow 97 = .ok (.baload, 1) := by decide +kernel
theorem dK5_isOfNow_98 : decode cK5_isOfNow 98 = .ok (.ifCond .eq 7, 3) := by decide +kernel
theorem dK5_isOfNow_101 : decode cK5_isOfNow 101 = .ok (.iconst 1, 1) := by decide +kernel
theorem dK5_isOfNow_102 : decode cK5_isOfNow 102 = .ok (.goto 4, 3) := by decide +kernel
theorem dK5_isOfNow_105 : decode cK5_isOfNow 105 = .ok (.iconst 0, 1) := by decide +kernel
theorem dK5_isOfNow_106 : decode cK5_isOfNow 106 = .ok (.bastore, 1) := by decide +kernel
theorem dK5_isOfNow_107 : decode cK5_isOfNow 107 = .ok (.iinc 5 1, 3) := by decide +kernel
theorem dK5_isOfNow_110 : decode cK5_isOfNow 110 = .ok (.goto (-58), 3) := by decide +kernel
theorem dK5_isOfNow_113 : decode cK5_isOfNow 113 = .ok (.iinc 4 1, 3) := by decide +kernel
theorem dK5_isOfNow_116 : decode cK5_isOfNow 116 = .ok (.goto (-74), 3) := by decide +kernel
theorem dK5_isOfNow_119 : decode cK5_isOfNow 119 = .ok (.iinc 3 1, 3) := by decide +kernel
theorem dK5_isOfNow_122 : decode cK5_isOfNow 122 = .ok (.goto (-89), 3) := by decide +kernel
theorem dK5_isOfNow_125 : decode cK5_isOfNow 125 = .ok (.aload_n 0, 1) := by decide +kernel
theorem dK5_isOfNow_126 : decode cK5_isOfNow 126 = .ok (.getfield 48, 3) := by decide +kernel
theorem dK5_isOfNow_129 : decode cK5_isOfNow 129 = .ok (.iload_n 2, 1) := by decide +kernel
theorem dK5_isOfNow_130 : decode cK5_isOfNow 130 = .ok (.baload, 1) := by decide +kernel
theorem dK5_isOfNow_131 : decode cK5_isOfNow 131 = .ok (.ireturn, 1) := by decide +kernel
theorem dK5_holds_0 : decode cK5_holds 0 = .ok (.aload_n 0, 1) := by decide +kernel
theorem dK5_holds_1 : decode cK5_holds 1 = .ok (.getfield 23, 3) := by decide +kernel
theorem dK5_holds_4 : decode cK5_holds 4 = .ok (.iload_n 1, 1) := by decide +kernel
theorem dK5_holds_5 : decode cK5_holds 5 = .ok (.iaload, 1) := by decide +kernel
theorem dK5_holds_6 : decode cK5_holds 6 = .ok (.istore_n 3, 1) := by decide +kernel
theorem dK5_holds_7 : decode cK5_holds 7 = .ok (.aload_n 0, 1) := by decide +kernel
theorem dK5_holds_8 : decode cK5_holds 8 = .ok (.getfield 26, 3) := by decide +kernel
theorem dK5_holds_11 : decode cK5_holds 11 = .ok (.iload_n 1, 1) := by decide +kernel
theorem dK5_holds_12 : decode cK5_holds 12 = .ok (.iaload, 1) := by decide +kernel
theorem dK5_holds_13 : decode cK5_holds 13 = .ok (.istore 4, 2) := by decide +kernel
theorem dK5_holds_15 : decode cK5_holds 15 = .ok (.iconst 0, 1) := by decide +kernel
theorem dK5_holds_16 : decode cK5_holds 16 = .ok (.istore 5, 2) := by decide +kernel
theorem dK5_holds_18 : decode cK5_holds 18 = .ok (.iconst 1, 1) := by decide +kernel
theorem dK5_holds_19 : decode cK5_holds 19 = .ok (.istore 6, 2) := by decide +kernel
theorem dK5_holds_21 : decode cK5_holds 21 = .ok (.iconst 0, 1) := by decide +kernel
theorem dK5_holds_22 : decode cK5_holds 22 = .ok (.istore 7, 2) := by decide +kernel
theorem dK5_holds_24 : decode cK5_holds 24 = .ok (.iload 7, 2) := by decide +kernel
theorem dK5_holds_26 : decode cK5_holds 26 = .ok (.bipush 12, 2) := by decide +kernel
theorem dK5_holds_28 : decode cK5_holds 28 = .ok (.if_icmp .ge 202, 3) := by decide +kernel
theorem dK5_holds_31 : decode cK5_holds 31 = .ok (.aload_n 0, 1) := by decide +kernel
theorem dK5_holds_32 : decode cK5_holds 32 = .ok (.getfield 13, 3) := by decide +kernel
theorem dK5_holds_35 : decode cK5_holds 35 = .ok (.iload_n 2, 1) := by decide +kernel
theorem dK5_holds_36 : decode cK5_holds 36 = .ok (.iload_n 3, 1) := by decide +kernel
theorem dK5_holds_37 : decode cK5_holds 37 = .ok (.iload 7, 2) := by decide +kernel
theorem dK5_holds_39 : decode cK5_holds 39 = .ok (.invokestatic 68, 3) := by decide +kernel
theorem dK5_holds_42 : decode cK5_holds 42 = .ok (.baload, 1) := by decide +kernel
theorem dK5_holds_43 : decode cK5_holds 43 = .ok (.istore 8, 2) := by decide +kernel
theorem dK5_holds_45 : decode cK5_holds 45 = .ok (.iload 5, 2) := by decide +kernel
theorem dK5_holds_47 : decode cK5_holds 47 = .ok (.iload 8, 2) := by decide +kernel
theorem dK5_holds_49 : decode cK5_holds 49 = .ok (.ifCond .eq 7, 3) := by decide +kernel
theorem dK5_holds_52 : decode cK5_holds 52 = .ok (.iconst 1, 1) := by decide +kernel
theorem dK5_holds_53 : decode cK5_holds 53 = .ok (.goto 4, 3) := by decide +kernel
theorem dK5_holds_56 : decode cK5_holds 56 = .ok (.iconst 0, 1) := by decide +kernel
theorem dK5_holds_57 : decode cK5_holds 57 = .ok (.iadd, 1) := by decide +kernel
theorem dK5_holds_58 : decode cK5_holds 58 = .ok (.istore 5, 2) := by decide +kernel
theorem dK5_holds_60 : decode cK5_holds 60 = .ok (.aload_n 0, 1) := by decide +kernel
theorem dK5_holds_61 : decode cK5_holds 61 = .ok (.getfield 16, 3) := by decide +kernel
theorem dK5_holds_64 : decode cK5_holds 64 = .ok (.iload_n 1, 1) := by decide +kernel
theorem dK5_holds_65 : decode cK5_holds 65 = .ok (.iaload, 1) := by decide +kernel
theorem dK5_holds_66 : decode cK5_holds 66 = .ok (.iconst 2, 1) := by decide +kernel
theorem dK5_holds_67 : decode cK5_holds 67 = .ok (.if_icmp .ne 34, 3) := by decide +kernel
theorem dK5_holds_70 : decode cK5_holds 70 = .ok (.iload 6, 2) := by decide +kernel
theorem dK5_holds_72 : decode cK5_holds 72 = .ok (.ifCond .eq 23, 3) := by decide +kernel
theorem dK5_holds_75 : decode cK5_holds 75 = .ok (.iload 8, 2) := by decide +kernel
theorem dK5_holds_77 : decode cK5_holds 77 = .ok (.ifCond .eq 14, 3) := by decide +kernel
theorem dK5_holds_80 : decode cK5_holds 80 = .ok (.aload_n 0, 1) := by decide +kernel
theorem dK5_holds_81 : decode cK5_holds 81 = .ok (.iload 7, 2) := by decide +kernel
theorem dK5_holds_83 : decode cK5_holds 83 = .ok (.iload 4, 2) := by decide +kernel
theorem dK5_holds_85 : decode cK5_holds 85 = .ok (.invokevirtual 78, 3) := by decide +kernel
theorem dK5_holds_88 : decode cK5_holds 88 = .ok (.ifCond .eq 7, 3) := by decide +kernel
theorem dK5_holds_91 : decode cK5_holds 91 = .ok (.iconst 1, 1) := by decide +kernel
theorem dK5_holds_92 : decode cK5_holds 92 = .ok (.goto 4, 3) := by decide +kernel
theorem dK5_holds_95 : decode cK5_holds 95 = .ok (.iconst 0, 1) := by decide +kernel
theorem dK5_holds_96 : decode cK5_holds 96 = .ok (.istore 6, 2) := by decide +kernel
theorem dK5_holds_98 : decode cK5_holds 98 = .ok (.goto 126, 3) := by decide +kernel
theorem dK5_holds_101 : decode cK5_holds 101 = .ok (.aload_n 0, 1) := by decide +kernel
theorem dK5_holds_102 : decode cK5_holds 102 = .ok (.getfield 16, 3) := by decide +kernel
theorem dK5_holds_105 : decode cK5_holds 105 = .ok (.iload_n 1, 1) := by decide +kernel
theorem dK5_holds_106 : decode cK5_holds 106 = .ok (.iaload, 1) := by decide +kernel
theorem dK5_holds_107 : decode cK5_holds 107 = .ok (.iconst 3, 1) := by decide +kernel
theorem dK5_holds_108 : decode cK5_holds 108 = .ok (.if_icmp .ne 30, 3) := by decide +kernel
theorem dK5_holds_111 : decode cK5_holds 111 = .ok (.iload 6, 2) := by decide +kernel
theorem dK5_holds_113 : decode cK5_holds 113 = .ok (.ifCond .eq 19, 3) := by decide +kernel
theorem dK5_holds_116 : decode cK5_holds 116 = .ok (.iload 8, 2) := by decide +kernel
theorem dK5_holds_118 : decode cK5_holds 118 = .ok (.ifCond .eq 10, 3) := by decide +kernel
theorem dK5_holds_121 : decode cK5_holds 121 = .ok (.iload 7, 2) := by decide +kernel
theorem dK5_holds_123 : decode cK5_holds 123 = .ok (.iload 4, 2) := by decide +kernel
theorem dK5_holds_125 : decode cK5_holds 125 = .ok (.if_icmp .eq 7, 3) := by decide +kernel
theorem dK5_holds_128 : decode cK5_holds 128 = .ok (.iconst 1, 1) := by decide +kernel
theorem dK5_holds_129 : decode cK5_holds 129 = .ok (.goto 4, 3) := by decide +kernel
theorem dK5_holds_132 : decode cK5_holds 132 = .ok (.iconst 0, 1) := by decide +kernel
theorem dK5_holds_133 : decode cK5_holds 133 = .ok (.istore 6, 2) := by decide +kernel
theorem dK5_holds_135 : decode cK5_holds 135 = .ok (.goto 89, 3) := by decide +kernel
theorem dK5_holds_138 : decode cK5_holds 138 = .ok (.aload_n 0, 1) := by decide +kernel
theorem dK5_holds_139 : decode cK5_holds 139 = .ok (.getfield 16, 3) := by decide +kernel
theorem dK5_holds_142 : decode cK5_holds 142 = .ok (.iload_n 1, 1) := by decide +kernel
theorem dK5_holds_143 : decode cK5_holds 143 = .ok (.iaload, 1) := by decide +kernel
theorem dK5_holds_144 : decode cK5_holds 144 = .ok (.iconst 4, 1) := by decide +kernel
theorem dK5_holds_145 : decode cK5_holds 145 = .ok (.if_icmp .ne 36, 3) := by decide +kernel
theorem dK5_holds_148 : decode cK5_holds 148 = .ok (.iload 6, 2) := by decide +kernel
theorem dK5_holds_150 : decode cK5_holds 150 = .ok (.ifCond .eq 25, 3) := by decide +kernel
theorem dK5_holds_153 : decode cK5_holds 153 = .ok (.iload 8, 2) := by decide +kernel
theorem dK5_holds_155 : decode cK5_holds 155 = .ok (.aload_n 0, 1) := by decide +kernel
theorem dK5_holds_156 : decode cK5_holds 156 = .ok (.getfield 13, 3) := by decide +kernel
theorem dK5_holds_159 : decode cK5_holds 159 = .ok (.iload_n 2, 1) := by decide +kernel
theorem dK5_holds_160 : decode cK5_holds 160 = .ok (.iload 4, 2) := by decide +kernel
theorem dK5_holds_162 : decode cK5_holds 162 = .ok (.iload 7, 2) := by decide +kernel
theorem dK5_holds_164 : decode cK5_holds 164 = .ok (.invokestatic 68, 3) := by decide +kernel
theorem dK5_holds_167 : decode cK5_holds 167 = .ok (.baload, 1) := by decide +kernel
theorem dK5_holds_168 : decode cK5_holds 168 = .ok (.if_icmp .ne 7, 3) := by decide +kernel
theorem dK5_holds_171 : decode cK5_holds 171 = .ok (.iconst 1, 1) := by decide +kernel
theorem dK5_holds_172 : decode cK5_holds 172 = .ok (.goto 4, 3) := by decide +kernel
theorem dK5_holds_175 : decode cK5_holds 175 = .ok (.iconst 0, 1) := by decide +kernel
theorem dK5_holds_176 : decode cK5_holds 176 = .ok (.istore 6, 2) := by decide +kernel
theorem dK5_holds_178 : decode cK5_holds 178 = .ok (.goto 46, 3) := by decide +kernel
theorem dK5_holds_181 : decode cK5_holds 181 = .ok (.aload_n 0, 1) := by decide +kernel
theorem dK5_holds_182 : decode cK5_holds 182 = .ok (.getfield 16, 3) := by decide +kernel
theorem dK5_holds_185 : decode cK5_holds 185 = .ok (.iload_n 1, 1) := by decide +kernel
theorem dK5_holds_186 : decode cK5_holds 186 = .ok (.iaload, 1) := by decide +kernel
theorem dK5_holds_187 : decode cK5_holds 187 = .ok (.iconst 5, 1) := by decide +kernel
theorem dK5_holds_188 : decode cK5_holds 188 = .ok (.if_icmp .ne 36, 3) := by decide +kernel
theorem dK5_holds_191 : decode cK5_holds 191 = .ok (.iload 6, 2) := by decide +kernel
theorem dK5_holds_193 : decode cK5_holds 193 = .ok (.ifCond .eq 28, 3) := by decide +kernel
theorem dK5_holds_196 : decode cK5_holds 196 = .ok (.iload 8, 2) := by decide +kernel
theorem dK5_holds_198 : decode cK5_holds 198 = .ok (.ifCond .eq 19, 3) := by decide +kernel
theorem dK5_holds_201 : decode cK5_holds 201 = .ok (.aload_n 0, 1) := by decide +kernel
theorem dK5_holds_202 : decode cK5_holds 202 = .ok (.getfield 13, 3) := by decide +kernel
theorem dK5_holds_205 : decode cK5_holds 205 = .ok (.iload_n 2, 1) := by decide +kernel
theorem dK5_holds_206 : decode cK5_holds 206 = .ok (.iload 4, 2) := by decide +kernel
theorem dK5_holds_208 : decode cK5_holds 208 = .ok (.iload 7, 2) := by decide +kernel
theorem dK5_holds_210 : decode cK5_holds 210 = .ok (.invokestatic 68, 3) := by decide +kernel
theorem dK5_holds_213 : decode cK5_holds 213 = .ok (.baload, 1) := by decide +kernel
theorem dK5_holds_214 : decode cK5_holds 214 = .ok (.ifCond .ne 7, 3) := by decide +kernel
theorem dK5_holds_217 : decode cK5_holds 217 = .ok (.iconst 1, 1) := by decide +kernel
theorem dK5_holds_218 : decode cK5_holds 218 = .ok (.goto 4, 3) := by decide +kernel
theorem dK5_holds_221 : decode cK5_holds 221 = .ok (.iconst 0, 1) := by decide +kernel
theorem dK5_holds_222 : decode cK5_holds 222 = .ok (.istore 6, 2) := by decide +kernel
theorem dK5_holds_224 : decode cK5_holds 224 = .ok (.iinc 7 1, 3) := by decide +kernel
theorem dK5_holds_227 : decode cK5_holds 227 = .ok (.goto (-203), 3) := by decide +kernel
theorem dK5_holds_230 : decode cK5_holds 230 = .ok (.aload_n 0, 1) := by decide +kernel
theorem dK5_holds_231 : decode cK5_holds 231 = .ok (.getfield 16, 3) := by decide +kernel
theorem dK5_holds_234 : decode cK5_holds 234 = .ok (.iload_n 1, 1) := by decide +kernel
theorem dK5_holds_235 : decode cK5_holds 235 = .ok (.iaload, 1) := by decide +kernel
theorem dK5_holds_236 : decode cK5_holds 236 = .ok (.ifCond .ne 18, 3) := by decide +kernel
theorem dK5_holds_239 : decode cK5_holds 239 = .ok (.iload 5, 2) := by decide +kernel
theorem dK5_holds_241 : decode cK5_holds 241 = .ok (.iload 4, 2) := by decide +kernel
theorem dK5_holds_243 : decode cK5_holds 243 = .ok (.if_icmp .lt 7, 3) := by decide +kernel
theorem dK5_holds_246 : decode cK5_holds 246 = .ok (.iconst 1, 1) := by decide +kernel
theorem dK5_holds_247 : decode cK5_holds 247 = .ok (.goto 34, 3) := by decide +kernel
theorem dK5_holds_250 : decode cK5_holds 250 = .ok (.iconst 0, 1) := by decide +kernel
theorem dK5_holds_251 : decode cK5_holds 251 = .ok (.goto 30, 3) := by decide +kernel
theorem dK5_holds_254 : decode cK5_holds 254 = .ok (.aload_n 0, 1) := by decide +kernel
theorem dK5_holds_255 : decode cK5_holds 255 = .ok (.getfield 16, 3) := by decide +kernel
theorem dK5_holds_258 : decode cK5_holds 258 = .ok (.iload_n 1, 1) := by decide +kernel
theorem dK5_holds_259 : decode cK5_holds 259 = .ok (.iaload, 1) := by decide +kernel
theorem dK5_holds_260 : decode cK5_holds 260 = .ok (.iconst 1, 1) := by decide +kernel
theorem dK5_holds_261 : decode cK5_holds 261 = .ok (.if_icmp .ne 18, 3) := by decide +kernel
theorem dK5_holds_264 : decode cK5_holds 264 = .ok (.iload 5, 2) := by decide +kernel
theorem dK5_holds_266 : decode cK5_holds 266 = .ok (.iload 4, 2) := by decide +kernel
theorem dK5_holds_268 : decode cK5_holds 268 = .ok (.if_icmp .gt 7, 3) := by decide +kernel
theorem dK5_holds_271 : decode cK5_holds 271 = .ok (.iconst 1, 1) := by decide +kernel
theorem dK5_holds_272 : decode cK5_holds 272 = .ok (.goto 9, 3) := by decide +kernel
theorem dK5_holds_275 : decode cK5_holds 275 = .ok (.iconst 0, 1) := by decide +kernel
theorem dK5_holds_276 : decode cK5_holds 276 = .ok (.goto 5, 3) := by decide +kernel
theorem dK5_holds_279 : decode cK5_holds 279 = .ok (.iload 6, 2) := by decide +kernel
theorem dK5_holds_281 : decode cK5_holds 281 = .ok (.ireturn, 1) := by decide +kernel
theorem dK5_result_0 : decode cK5_result 0 = .ok (.aload_n 0, 1) := by decide +kernel
theorem dK5_result_1 : decode cK5_result 1 = .ok (.iconst 0, 1) := by decide +kernel
theorem dK5_result_2 : decode cK5_result 2 = .ok (.invokevirtual 88, 3) := by decide +kernel
theorem dK5_result_5 : decode cK5_result 5 = .ok (.iload_n 1, 1) := by decide +kernel
theorem dK5_result_6 : decode cK5_result 6 = .ok (.istore_n 2, 1) := by decide +kernel
theorem dK5_result_7 : decode cK5_result 7 = .ok (.iconst 0, 1) := by decide +kernel
theorem dK5_result_8 : decode cK5_result 8 = .ok (.istore_n 3, 1) := by decide +kernel
theorem dK5_result_9 : decode cK5_result 9 = .ok (.iload_n 3, 1) := by decide +kernel
theorem dK5_result_10 : decode cK5_result 10 = .ok (.bipush 12, 2) := by decide +kernel
theorem dK5_result_12 : decode cK5_result 12 = .ok (.aload_n 0, 1) := by decide +kernel
theorem dK5_result_13 : decode cK5_result 13 = .ok (.getfield 72, 3) := by decide +kernel
theorem dK5_result_16 : decode cK5_result 16 = .ok (.imul, 1) := by decide +kernel
theorem dK5_result_17 : decode cK5_result 17 = .ok (.if_icmp .ge 51, 3) := by decide +kernel
theorem dK5_result_20 : decode cK5_result 20 = .ok (.iload_n 1, 1) := by decide +kernel
theorem dK5_result_21 : decode cK5_result 21 = .ok (.ifCond .lt 47, 3) := by decide +kernel
theorem dK5_result_24 : decode cK5_result 24 = .ok (.aload_n 0, 1) := by decide +kernel
theorem dK5_result_25 : decode cK5_result 25 = .ok (.iload_n 3, 1) := by decide +kernel
theorem dK5_result_26 : decode cK5_result 26 = .ok (.bipush 12, 2) := by decide +kernel
theorem dK5_result_28 : decode cK5_result 28 = .ok (.idiv, 1) := by decide +kernel
theorem dK5_result_29 : decode cK5_result 29 = .ok (.iload_n 3, 1) := by decide +kernel
theorem dK5_result_30 : decode cK5_result 30 = .ok (.bipush 12, 2) := by decide +kernel
theorem dK5_result_32 : decode cK5_result 32 = .ok (.irem, 1) := by decide +kernel
theorem dK5_result_33 : decode cK5_result 33 = .ok (.invokevirtual 85, 3) := by decide +kernel
theorem dK5_result_36 : decode cK5_result 36 = .ok (.istore 4, 2) := by decide +kernel
theorem dK5_result_38 : decode cK5_result 38 = .ok (.iload 4, 2) := by decide +kernel
theorem dK5_result_40 : decode cK5_result 40 = .ok (.ifCond .eq 9, 3) := by decide +kernel
theorem dK5_result_43 : decode cK5_result 43 = .ok (.iload_n 2, 1) := by decide +kernel
theorem dK5_result_44 : decode cK5_result 44 = .ok (.ifCond .ne 5, 3) := by decide +kernel
theorem dK5_result_47 : decode cK5_result 47 = .ok (.iload_n 3, 1) := by decide +kernel
theorem dK5_result_48 : decode cK5_result 48 = .ok (.ireturn, 1) := by decide +kernel
theorem dK5_result_49 : decode cK5_result 49 = .ok (.iload_n 2, 1) := by decide +kernel
theorem dK5_result_50 : decode cK5_result 50 = .ok (.iload 4, 2) := by decide +kernel
theorem dK5_result_52 : decode cK5_result 52 = .ok (.ifCond .eq 7, 3) := by decide +kernel
theorem dK5_result_55 : decode cK5_result 55 = .ok (.iconst 1, 1) := by decide +kernel
theorem dK5_result_56 : decode cK5_result 56 = .ok (.goto 4, 3) := by decide +kernel
theorem dK5_result_59 : decode cK5_result 59 = .ok (.iconst 0, 1) := by decide +kernel
theorem dK5_result_60 : decode cK5_result 60 = .ok (.isub, 1) := by decide +kernel
theorem dK5_result_61 : decode cK5_result 61 = .ok (.istore_n 2, 1) := by decide +kernel
theorem dK5_result_62 : decode cK5_result 62 = .ok (.iinc 3 1, 3) := by decide +kernel
theorem dK5_result_65 : decode cK5_result 65 = .ok (.goto (-56), 3) := by decide +kernel
theorem dK5_result_68 : decode cK5_result 68 = .ok (.bipush (-2), 2) := by decide +kernel
theorem dK5_result_70 : decode cK5_result 70 = .ok (.ireturn, 1) := by decide +kernel
theorem dK5_isOf_0 : decode cK5_isOf 0 = .ok (.iload_n 1, 1) := by decide +kernel
theorem dK5_isOf_1 : decode cK5_isOf 1 = .ok (.iconst 0, 1) := by decide +kernel
theorem dK5_isOf_2 : decode cK5_isOf 2 = .ok (.bipush 11, 2) := by decide +kernel
theorem dK5_isOf_4 : decode cK5_isOf 4 = .ok (.invokestatic 61, 3) := by decide +kernel
theorem dK5_isOf_7 : decode cK5_isOf 7 = .ok (.ifCond .eq 13, 3) := by decide +kernel
theorem dK5_isOf_10 : decode cK5_isOf 10 = .ok (.iload_n 2, 1) := by decide +kernel
theorem dK5_isOf_11 : decode cK5_isOf 11 = .ok (.iconst 0, 1) := by decide +kernel
theorem dK5_isOf_12 : decode cK5_isOf 12 = .ok (.bipush 11, 2) := by decide +kernel
theorem dK5_isOf_14 : decode cK5_isOf 14 = .ok (.invokestatic 61, 3) := by decide +kernel
theorem dK5_isOf_17 : decode cK5_isOf 17 = .ok (.ifCond .ne 5, 3) := by decide +kernel
theorem dK5_isOf_20 : decode cK5_isOf 20 = .ok (.iconst (-1), 1) := by decide +kernel
theorem dK5_isOf_21 : decode cK5_isOf 21 = .ok (.ireturn, 1) := by decide +kernel
theorem dK5_isOf_22 : decode cK5_isOf 22 = .ok (.aload_n 0, 1) := by decide +kernel
theorem dK5_isOf_23 : decode cK5_isOf 23 = .ok (.iconst 0, 1) := by decide +kernel
theorem dK5_isOf_24 : decode cK5_isOf 24 = .ok (.invokevirtual 88, 3) := by decide +kernel
theorem dK5_isOf_27 : decode cK5_isOf 27 = .ok (.aload_n 0, 1) := by decide +kernel
theorem dK5_isOf_28 : decode cK5_isOf 28 = .ok (.iload_n 1, 1) := by decide +kernel
theorem dK5_isOf_29 : decode cK5_isOf 29 = .ok (.iload_n 2, 1) := by decide +kernel
theorem dK5_isOf_30 : decode cK5_isOf 30 = .ok (.invokevirtual 78, 3) := by decide +kernel
theorem dK5_isOf_33 : decode cK5_isOf 33 = .ok (.ifCond .eq 7, 3) := by decide +kernel
theorem dK5_isOf_36 : decode cK5_isOf 36 = .ok (.iconst 1, 1) := by decide +kernel
theorem dK5_isOf_37 : decode cK5_isOf 37 = .ok (.goto 4, 3) := by decide +kernel
theorem dK5_isOf_40 : decode cK5_isOf 40 = .ok (.iconst 0, 1) := by decide +kernel
theorem dK5_isOf_41 : decode cK5_isOf 41 = .ok (.ireturn, 1) := by decide +kernel
theorem dK5_reason_0 : decode cK5_reason 0 = .ok (.iload_n 1, 1) := by decide +kernel
theorem dK5_reason_1 : decode cK5_reason 1 = .ok (.iconst 0, 1) := by decide +kernel
theorem dK5_reason_2 : decode cK5_reason 2 = .ok (.bipush 11, 2) := by decide +kernel
theorem dK5_reason_4 : decode cK5_reason 4 = .ok (.invokestatic 61, 3) := by decide +kernel
theorem dK5_reason_7 : decode cK5_reason 7 = .ok (.ifCond .eq 13, 3) := by decide +kernel
theorem dK5_reason_10 : decode cK5_reason 10 = .ok (.iload_n 2, 1) := by decide +kernel
theorem dK5_reason_11 : decode cK5_reason 11 = .ok (.iconst 0, 1) := by decide +kernel
theorem dK5_reason_12 : decode cK5_reason 12 = .ok (.bipush 11, 2) := by decide +kernel
theorem dK5_reason_14 : decode cK5_reason 14 = .ok (.invokestatic 61, 3) := by decide +kernel
theorem dK5_reason_17 : decode cK5_reason 17 = .ok (.ifCond .ne 5, 3) := by decide +kernel
theorem dK5_reason_20 : decode cK5_reason 20 = .ok (.iconst (-1), 1) := by decide +kernel
theorem dK5_reason_21 : decode cK5_reason 21 = .ok (.ireturn, 1) := by decide +kernel
theorem dK5_reason_22 : decode cK5_reason 22 = .ok (.aload_n 0, 1) := by decide +kernel
theorem dK5_reason_23 : decode cK5_reason 23 = .ok (.iload_n 2, 1) := by decide +kernel
theorem dK5_reason_24 : decode cK5_reason 24 = .ok (.invokevirtual 96, 3) := by decide +kernel
theorem dK5_reason_27 : decode cK5_reason 27 = .ok (.iconst (-1), 1) := by decide +kernel
theorem dK5_reason_28 : decode cK5_reason 28 = .ok (.istore 4, 2) := by decide +kernel
theorem dK5_reason_30 : decode cK5_reason 30 = .ok (.bipush 11, 2) := by decide +kernel
theorem dK5_reason_32 : decode cK5_reason 32 = .ok (.istore 5, 2) := by decide +kernel
theorem dK5_reason_34 : decode cK5_reason 34 = .ok (.iload 5, 2) := by decide +kernel
theorem dK5_reason_36 : decode cK5_reason 36 = .ok (.ifCond .lt 79, 3) := by decide +kernel
theorem dK5_reason_39 : decode cK5_reason 39 = .ok (.aload_n 0, 1) := by decide +kernel
theorem dK5_reason_40 : decode cK5_reason 40 = .ok (.getfield 7, 3) := by decide +kernel
theorem dK5_reason_43 : decode cK5_reason 43 = .ok (.iload_n 1, 1) := by decide +kernel
theorem dK5_reason_44 : decode cK5_reason 44 = .ok (.iconst 0, 1) := by decide +kernel
theorem dK5_reason_45 : decode cK5_reason 45 = .ok (.iload 5, 2) := by decide +kernel
theorem dK5_reason_47 : decode cK5_reason 47 = .ok (.invokestatic 68, 3) := by decide +kernel
theorem dK5_reason_50 : decode cK5_reason 50 = .ok (.baload, 1) := by decide +kernel
theorem dK5_reason_51 : decode cK5_reason 51 = .ok (.ifCond .eq 19, 3) := by decide +kernel
theorem dK5_reason_54 : decode cK5_reason 54 = .ok (.aload_n 0, 1) := by decide +kernel
theorem dK5_reason_55 : decode cK5_reason 55 = .ok (.getfield 51, 3) := by decide +kernel
theorem dK5_reason_58 : decode cK5_reason 58 = .ok (.iload 5, 2) := by decide +kernel
theorem dK5_reason_60 : decode cK5_reason 60 = .ok (.iaload, 1) := by decide +kernel
theorem dK5_reason_61 : decode cK5_reason 61 = .ok (.bipush 99, 2) := by decide +kernel
theorem dK5_reason_63 : decode cK5_reason 63 = .ok (.if_icmp .ge 7, 3) := by decide +kernel
theorem dK5_reason_66 : decode cK5_reason 66 = .ok (.iconst 1, 1) := by decide +kernel
theorem dK5_reason_67 : decode cK5_reason 67 = .ok (.goto 4, 3) := by decide +kernel
theorem dK5_reason_70 : decode cK5_reason 70 = .ok (.iconst 0, 1) := by decide +kernel
theorem dK5_reason_71 : decode cK5_reason 71 = .ok (.istore 6, 2) := by decide +kernel
theorem dK5_reason_73 : decode cK5_reason 73 = .ok (.iload 6, 2) := by decide +kernel
theorem dK5_reason_75 : decode cK5_reason 75 = .ok (.ifCond .eq 30, 3) := by decide +kernel
theorem dK5_reason_78 : decode cK5_reason 78 = .ok (.iload 4, 2) := by decide +kernel
theorem dK5_reason_80 : decode cK5_reason 80 = .ok (.ifCond .lt 20, 3) := by decide +kernel
theorem dK5_reason_83 : decode cK5_reason 83 = .ok (.aload_n 0, 1) := by decide +kernel
theorem dK5_reason_84 : decode cK5_reason 84 = .ok (.getfield 51, 3) := by decide +kernel
theorem dK5_reason_87 : decode cK5_reason 87 = .ok (.iload 5, 2) := by decide +kernel
theorem dK5_reason_89 : decode cK5_reason 89 = .ok (.iaload, 1) := by decide +kernel
theorem dK5_reason_90 : decode cK5_reason 90 = .ok (.aload_n 0, 1) := by decide +kernel
theorem dK5_reason_91 : decode cK5_reason 91 = .ok (.getfield 51, 3) := by decide +kernel
theorem dK5_reason_94 : decode cK5_reason 94 = .ok (.iload 4, 2) := by decide +kernel
theorem dK5_reason_96 : decode cK5_reason 96 = .ok (.iaload, 1) := by decide +kernel
theorem dK5_reason_97 : decode cK5_reason 97 = .ok (.if_icmp .gt 8, 3) := by decide +kernel
theorem dK5_reason_100 : decode cK5_reason 100 = .ok (.iload 5, 2) := by decide +kernel
theorem dK5_reason_102 : decode cK5_reason 102 = .ok (.goto 5, 3) := by decide +kernel
theorem dK5_reason_105 : decode cK5_reason 105 = .ok (.iload 4, 2) := by decide +kernel
theorem dK5_reason_107 : decode cK5_reason 107 = .ok (.istore 4, 2) := by decide +kernel
theorem dK5_reason_109 : decode cK5_reason 109 = .ok (.iinc 5 (-1), 3) := by decide +kernel
theorem dK5_reason_112 : decode cK5_reason 112 = .ok (.goto (-78), 3) := by decide +kernel
theorem dK5_reason_115 : decode cK5_reason 115 = .ok (.iload 4, 2) := by decide +kernel
theorem dK5_reason_117 : decode cK5_reason 117 = .ok (.ifCond .lt 18, 3) := by decide +kernel
theorem dK5_reason_120 : decode cK5_reason 120 = .ok (.iload_n 3, 1) := by decide +kernel
theorem dK5_reason_121 : decode cK5_reason 121 = .ok (.ifCond .lt 14, 3) := by decide +kernel
theorem dK5_reason_124 : decode cK5_reason 124 = .ok (.iload_n 3, 1) := by decide +kernel
theorem dK5_reason_125 : decode cK5_reason 125 = .ok (.aload_n 0, 1) := by decide +kernel
theorem dK5_reason_126 : decode cK5_reason 126 = .ok (.getfield 51, 3) := by decide +kernel
theorem dK5_reason_129 : decode cK5_reason 129 = .ok (.iload 4, 2) := by decide +kernel
theorem dK5_reason_131 : decode cK5_reason 131 = .ok (.iaload, 1) := by decide +kernel
theorem dK5_reason_132 : decode cK5_reason 132 = .ok (.if_icmp .le 6, 3) := by decide +kernel
theorem dK5_reason_135 : decode cK5_reason 135 = .ok (.bipush (-2), 2) := by decide +kernel
theorem dK5_reason_137 : decode cK5_reason 137 = .ok (.ireturn, 1) := by decide +kernel
theorem dK5_reason_138 : decode cK5_reason 138 = .ok (.iload_n 3, 1) := by decide +kernel
theorem dK5_reason_139 : decode cK5_reason 139 = .ok (.ifCond .ne 11, 3) := by decide +kernel
theorem dK5_reason_142 : decode cK5_reason 142 = .ok (.iload_n 1, 1) := by decide +kernel
theorem dK5_reason_143 : decode cK5_reason 143 = .ok (.iconst 0, 1) := by decide +kernel
theorem dK5_reason_144 : decode cK5_reason 144 = .ok (.iload 4, 2) := by decide +kernel
theorem dK5_reason_146 : decode cK5_reason 146 = .ok (.invokestatic 68, 3) := by decide +kernel
theorem dK5_reason_149 : decode cK5_reason 149 = .ok (.ireturn, 1) := by decide +kernel
theorem dK5_reason_150 : decode cK5_reason 150 = .ok (.iload 4, 2) := by decide +kernel
theorem dK5_reason_152 : decode cK5_reason 152 = .ok (.istore 5, 2) := by decide +kernel
theorem dK5_reason_154 : decode cK5_reason 154 = .ok (.iconst 1, 1) := by decide +kernel
theorem dK5_reason_155 : decode cK5_reason 155 = .ok (.istore 6, 2) := by decide +kernel
theorem dK5_reason_157 : decode cK5_reason 157 = .ok (.iload 6, 2) := by decide +kernel
theorem dK5_reason_159 : decode cK5_reason 159 = .ok (.iload_n 3, 1) := by decide +kernel
theorem dK5_reason_160 : decode cK5_reason 160 = .ok (.if_icmp .gt 90, 3) := by decide +kernel
theorem dK5_reason_163 : decode cK5_reason 163 = .ok (.iconst (-1), 1) := by decide +kernel
theorem dK5_reason_164 : decode cK5_reason 164 = .ok (.istore 7, 2) := by decide +kernel
theorem dK5_reason_166 : decode cK5_reason 166 = .ok (.bipush 11, 2) := by decide +kernel
theorem dK5_reason_168 : decode cK5_reason 168 = .ok (.istore 8, 2) := by decide +kernel
theorem dK5_reason_170 : decode cK5_reason 170 = .ok (.iload 8, 2) := by decide +kernel
theorem dK5_reason_172 : decode cK5_reason 172 = .ok (.ifCond .lt 53, 3) := by decide +kernel
theorem dK5_reason_175 : decode cK5_reason 175 = .ok (.aload_n 0, 1) := by decide +kernel
theorem dK5_reason_176 : decode cK5_reason 176 = .ok (.getfield 7, 3) := by decide +kernel
theorem dK5_reason_179 : decode cK5_reason 179 = .ok (.iload 5, 2) := by decide +kernel
theorem dK5_reason_181 : decode cK5_reason 181 = .ok (.iconst 1, 1) := by decide +kernel
theorem dK5_reason_182 : decode cK5_reason 182 = .ok (.iload 8, 2) := by decide +kernel
theorem dK5_reason_184 : decode cK5_reason 184 = .ok (.invokestatic 68, 3) := by decide +kernel
theorem dK5_reason_187 : decode cK5_reason 187 = .ok (.baload, 1) := by decide +kernel
theorem dK5_reason_188 : decode cK5_reason 188 = .ok (.ifCond .eq 27, 3) := by decide +kernel
theorem dK5_reason_191 : decode cK5_reason 191 = .ok (.aload_n 0, 1) := by decide +kernel
theorem dK5_reason_192 : decode cK5_reason 192 = .ok (.getfield 51, 3) := by decide +kernel
theorem dK5_reason_195 : decode cK5_reason 195 = .ok (.iload 8, 2) := by decide +kernel
theorem dK5_reason_197 : decode cK5_reason 197 = .ok (.iaload, 1) := by decide +kernel
theorem dK5_reason_198 : decode cK5_reason 198 = .ok (.aload_n 0, 1) := by decide +kernel
theorem dK5_reason_199 : decode cK5_reason 199 = .ok (.getfield 51, 3) := by decide +kernel
theorem dK5_reason_202 : decode cK5_reason 202 = .ok (.iload 5, 2) := by decide +kernel
theorem dK5_reason_204 : decode cK5_reason 204 = .ok (.iaload, 1) := by decide +kernel
theorem dK5_reason_205 : decode cK5_reason 205 = .ok (.iconst 1, 1) := by decide +kernel
theorem dK5_reason_206 : decode cK5_reason 206 = .ok (.isub, 1) := by decide +kernel
theorem dK5_reason_207 : decode cK5_reason 207 = .ok (.if_icmp .ne 8, 3) := by decide +kernel
theorem dK5_reason_210 : decode cK5_reason 210 = .ok (.iload 8, 2) := by decide +kernel
theorem dK5_reason_212 : decode cK5_reason 212 = .ok (.goto 5, 3) := by decide +kernel
theorem dK5_reason_215 : decode cK5_reason 215 = .ok (.iload 7, 2) := by decide +kernel
theorem dK5_reason_217 : decode cK5_reason 217 = .ok (.istore 7, 2) := by decide +kernel
theorem dK5_reason_219 : decode cK5_reason 219 = .ok (.iinc 8 (-1), 3) := by decide +kernel
theorem dK5_reason_222 : decode cK5_reason 222 = .ok (.goto (-52), 3) := by decide +kernel
theorem dK5_reason_225 : decode cK5_reason 225 = .ok (.iload 6, 2) := by decide +kernel
theorem dK5_reason_227 : decode cK5_reason 227 = .ok (.iload_n 3, 1) := by decide +kernel
theorem dK5_reason_228 : decode cK5_reason 228 = .ok (.if_icmp .ne 12, 3) := by decide +kernel
theorem dK5_reason_231 : decode cK5_reason 231 = .ok (.iload 5, 2) := by decide +kernel
theorem dK5_reason_233 : decode cK5_reason 233 = .ok (.iconst 1, 1) := by decide +kernel
theorem dK5_reason_234 : decode cK5_reason 234 = .ok (.iload 7, 2) := by decide +kernel
theorem dK5_reason_236 : decode cK5_reason 236 = .ok (.invokestatic 68, 3) := by decide +kernel
theorem dK5_reason_239 : decode cK5_reason 239 = .ok (.ireturn, 1) := by decide +kernel
theorem dK5_reason_240 : decode cK5_reason 240 = .ok (.iload 7, 2) := by decide +kernel
theorem dK5_reason_242 : decode cK5_reason 242 = .ok (.istore 5, 2) := by decide +kernel
theorem dK5_reason_244 : decode cK5_reason 244 = .ok (.iinc 6 1, 3) := by decide +kernel
theorem dK5_reason_247 : decode cK5_reason 247 = .ok (.goto (-90), 3) := by decide +kernel
theorem dK5_reason_250 : decode cK5_reason 250 = .ok (.bipush (-2), 2) := by decide +kernel
theorem dK5_reason_252 : decode cK5_reason 252 = .ok (.ireturn, 1) := by decide +kernel
theorem dK5_measure_0 : decode cK5_measure 0 = .ok (.iconst 0, 1) := by decide +kernel
theorem dK5_measure_1 : decode cK5_measure 1 = .ok (.istore_n 2, 1) := by decide +kernel
theorem dK5_measure_2 : decode cK5_measure 2 = .ok (.iload_n 2, 1) := by decide +kernel
theorem dK5_measure_3 : decode cK5_measure 3 = .ok (.bipush 12, 2) := by decide +kernel
theorem dK5_measure_5 : decode cK5_measure 5 = .ok (.if_icmp .ge 26, 3) := by decide +kernel
theorem dK5_measure_8 : decode cK5_measure 8 = .ok (.aload_n 0, 1) := by decide +kernel
theorem dK5_measure_9 : decode cK5_measure 9 = .ok (.getfield 51, 3) := by decide +kernel
theorem dK5_measure_12 : decode cK5_measure 12 = .ok (.iload_n 2, 1) := by decide +kernel
theorem dK5_measure_13 : decode cK5_measure 13 = .ok (.iload_n 2, 1) := by decide +kernel
theorem dK5_measure_14 : decode cK5_measure 14 = .ok (.iload_n 1, 1) := by decide +kernel
theorem dK5_measure_15 : decode cK5_measure 15 = .ok (.if_icmp .ne 7, 3) := by decide +kernel
theorem dK5_measure_18 : decode cK5_measure 18 = .ok (.iconst 0, 1) := by decide +kernel
theorem dK5_measure_19 : decode cK5_measure 19 = .ok (.goto 5, 3) := by decide +kernel
theorem dK5_measure_22 : decode cK5_measure 22 = .ok (.bipush 99, 2) := by decide +kernel
theorem dK5_measure_24 : decode cK5_measure 24 = .ok (.iastore, 1) := by decide +kernel
theorem dK5_measure_25 : decode cK5_measure 25 = .ok (.iinc 2 1, 3) := by decide +kernel
theorem dK5_measure_28 : decode cK5_measure 28 = .ok (.goto (-26), 3) := by decide +kernel
theorem dK5_measure_31 : decode cK5_measure 31 = .ok (.iconst 0, 1) := by decide +kernel
theorem dK5_measure_32 : decode cK5_measure 32 = .ok (.istore_n 2, 1) := by decide +kernel
theorem dK5_measure_33 : decode cK5_measure 33 = .ok (.iload_n 2, 1) := by decide +kernel
theorem dK5_measure_34 : decode cK5_measure 34 = .ok (.bipush 12, 2) := by decide +kernel
theorem dK5_measure_36 : decode cK5_measure 36 = .ok (.if_icmp .ge 87, 3) := by decide +kernel
theorem dK5_measure_39 : decode cK5_measure 39 = .ok (.iconst 0, 1) := by decide +kernel
theorem dK5_measure_40 : decode cK5_measure 40 = .ok (.istore_n 3, 1) := by decide +kernel
theorem dK5_measure_41 : decode cK5_measure 41 = .ok (.iload_n 3, 1) := by decide +kernel
theorem dK5_measure_42 : decode cK5_measure 42 = .ok (.bipush 12, 2) := by decide +kernel
theorem dK5_measure_44 : decode cK5_measure 44 = .ok (.if_icmp .ge 73, 3) := by decide +kernel
theorem dK5_measure_47 : decode cK5_measure 47 = .ok (.iconst 0, 1) := by decide +kernel
theorem dK5_measure_48 : decode cK5_measure 48 = .ok (.istore 4, 2) := by decide +kernel
theorem dK5_measure_50 : decode cK5_measure 50 = .ok (.iload 4, 2) := by decide +kernel
theorem dK5_measure_52 : decode cK5_measure 52 = .ok (.bipush 12, 2) := by decide +kernel
theorem dK5_measure_54 : decode cK5_measure 54 = .ok (.if_icmp .ge 57, 3) := by decide +kernel
theorem dK5_measure_57 : decode cK5_measure 57 = .ok (.aload_n 0, 1) := by decide +kernel
theorem dK5_measure_58 : decode cK5_measure 58 = .ok (.getfield 7, 3) := by decide +kernel
theorem dK5_measure_61 : decode cK5_measure 61 = .ok (.iload_n 3, 1) := by decide +kernel
theorem dK5_measure_62 : decode cK5_measure 62 = .ok (.iconst 1, 1) := by decide +kernel
theorem dK5_measure_63 : decode cK5_measure 63 = .ok (.iload 4, 2) := by decide +kernel
theorem dK5_measure_65 : decode cK5_measure 65 = .ok (.invokestatic 68, 3) := by decide +kernel
theorem dK5_measure_68 : decode cK5_measure 68 = .ok (.baload, 1) := by decide +kernel
theorem dK5_measure_69 : decode cK5_measure 69 = .ok (.ifCond .eq 36, 3) := by decide +kernel
theorem dK5_measure_72 : decode cK5_measure 72 = .ok (.aload_n 0, 1) := by decide +kernel
theorem dK5_measure_73 : decode cK5_measure 73 = .ok (.getfield 51, 3) := by decide +kernel
theorem dK5_measure_76 : decode cK5_measure 76 = .ok (.iload 4, 2) := by decide +kernel
theorem dK5_measure_78 : decode cK5_measure 78 = .ok (.iaload, 1) := by decide +kernel
theorem dK5_measure_79 : decode cK5_measure 79 = .ok (.iconst 1, 1) := by decide +kernel
theorem dK5_measure_80 : decode cK5_measure 80 = .ok (.iadd, 1) := by decide +kernel
theorem dK5_measure_81 : decode cK5_measure 81 = .ok (.aload_n 0, 1) := by decide +kernel
theorem dK5_measure_82 : decode cK5_measure 82 = .ok (.getfield 51, 3) := by decide +kernel
theorem dK5_measure_85 : decode cK5_measure 85 = .ok (.iload_n 3, 1) := by decide +kernel
theorem dK5_measure_86 : decode cK5_measure 86 = .ok (.iaload, 1) := by decide +kernel
theorem dK5_measure_87 : decode cK5_measure 87 = .ok (.if_icmp .ge 18, 3) := by decide +kernel
theorem dK5_measure_90 : decode cK5_measure 90 = .ok (.aload_n 0, 1) := by decide +kernel
theorem dK5_measure_91 : decode cK5_measure 91 = .ok (.getfield 51, 3) := by decide +kernel
theorem dK5_measure_94 : decode cK5_measure 94 = .ok (.iload_n 3, 1) := by decide +kernel
theorem dK5_measure_95 : decode cK5_measure 95 = .ok (.aload_n 0, 1) := by decide +kernel
theorem dK5_measure_96 : decode cK5_measure 96 = .ok (.getfield 51, 3) := by decide +kernel
theorem dK5_measure_99 : decode cK5_measure 99 = .ok (.iload 4, 2) := by decide +kernel
theorem dK5_measure_101 : decode cK5_measure 101 = .ok (.iaload, 1) := by decide +kernel
theorem dK5_measure_102 : decode cK5_measure 102 = .ok (.iconst 1, 1) := by decide +kernel
theorem dK5_measure_103 : decode cK5_measure 103 = .ok (.iadd, 1) := by decide +kernel
theorem dK5_measure_104 : decode cK5_measure 104 = .ok (.iastore, 1) := by decide +kernel
theorem dK5_measure_105 : decode cK5_measure 105 = .ok (.iinc 4 1, 3) := by decide +kernel
theorem dK5_measure_108 : decode cK5_measure 108 = .ok (.goto (-58), 3) := by decide +kernel
theorem dK5_measure_111 : decode cK5_measure 111 = .ok (.iinc 3 1, 3) := by decide +kernel
theorem dK5_measure_114 : decode cK5_measure 114 = .ok (.goto (-73), 3) := by decide +kernel
theorem dK5_measure_117 : decode cK5_measure 117 = .ok (.iinc 2 1, 3) := by decide +kernel
theorem dK5_measure_120 : decode cK5_measure 120 = .ok (.goto (-87), 3) := by decide +kernel
theorem dK5_measure_123 : decode cK5_measure 123 = .ok (.return_, 1) := by decide +kernel
theorem dK5_change_0 : decode cK5_change 0 = .ok (.iload_n 2, 1) := by decide +kernel
theorem dK5_change_1 : decode cK5_change 1 = .ok (.iload_n 3, 1) := by decide +kernel
theorem dK5_change_2 : decode cK5_change 2 = .ok (.iload 4, 2) := by decide +kernel
theorem dK5_change_4 : decode cK5_change 4 = .ok (.invokestatic 65, 3) := by decide +kernel
theorem dK5_change_7 : decode cK5_change 7 = .ok (.ifCond .eq 14, 3) := by decide +kernel
theorem dK5_change_10 : decode cK5_change 10 = .ok (.iload 5, 2) := by decide +kernel
theorem dK5_change_12 : decode cK5_change 12 = .ok (.iconst 1, 1) := by decide +kernel
theorem dK5_change_13 : decode cK5_change 13 = .ok (.bipush 9, 2) := by decide +kernel
theorem dK5_change_15 : decode cK5_change 15 = .ok (.invokestatic 61, 3) := by decide +kernel
theorem dK5_change_18 : decode cK5_change 18 = .ok (.ifCond .ne 5, 3) := by decide +kernel
theorem dK5_change_21 : decode cK5_change 21 = .ok (.iconst (-1), 1) := by decide +kernel
theorem dK5_change_22 : decode cK5_change 22 = .ok (.ireturn, 1) := by decide +kernel
theorem dK5_change_23 : decode cK5_change 23 = .ok (.aload_n 0, 1) := by decide +kernel
theorem dK5_change_24 : decode cK5_change 24 = .ok (.iload_n 1, 1) := by decide +kernel
theorem dK5_change_25 : decode cK5_change 25 = .ok (.iload_n 2, 1) := by decide +kernel
theorem dK5_change_26 : decode cK5_change 26 = .ok (.iload_n 3, 1) := by decide +kernel
theorem dK5_change_27 : decode cK5_change 27 = .ok (.iload 4, 2) := by decide +kernel
theorem dK5_change_29 : decode cK5_change 29 = .ok (.invokestatic 68, 3) := by decide +kernel
theorem dK5_change_32 : decode cK5_change 32 = .ok (.invokevirtual 99, 3) := by decide +kernel
theorem dK5_change_35 : decode cK5_change 35 = .ok (.ifCond .eq 6, 3) := by decide +kernel
theorem dK5_change_38 : decode cK5_change 38 = .ok (.bipush (-2), 2) := by decide +kernel
theorem dK5_change_40 : decode cK5_change 40 = .ok (.ireturn, 1) := by decide +kernel
theorem dK5_change_41 : decode cK5_change 41 = .ok (.aload_n 0, 1) := by decide +kernel
theorem dK5_change_42 : decode cK5_change 42 = .ok (.getfield 75, 3) := by decide +kernel
theorem dK5_change_45 : decode cK5_change 45 = .ok (.bipush 12, 2) := by decide +kernel
theorem dK5_change_47 : decode cK5_change 47 = .ok (.if_icmp .ne 6, 3) := by decide +kernel
theorem dK5_change_50 : decode cK5_change 50 = .ok (.bipush (-3), 2) := by decide +kernel
theorem dK5_change_52 : decode cK5_change 52 = .ok (.ireturn, 1) := by decide +kernel
theorem dK5_change_53 : decode cK5_change 53 = .ok (.aload_n 0, 1) := by decide +kernel
theorem dK5_change_54 : decode cK5_change 54 = .ok (.iload_n 1, 1) := by decide +kernel
theorem dK5_change_55 : decode cK5_change 55 = .ok (.iload_n 2, 1) := by decide +kernel
theorem dK5_change_56 : decode cK5_change 56 = .ok (.iload_n 3, 1) := by decide +kernel
theorem dK5_change_57 : decode cK5_change 57 = .ok (.iload 4, 2) := by decide +kernel
theorem dK5_change_59 : decode cK5_change 59 = .ok (.invokestatic 68, 3) := by decide +kernel
theorem dK5_change_62 : decode cK5_change 62 = .ok (.iload 5, 2) := by decide +kernel
theorem dK5_change_64 : decode cK5_change 64 = .ok (.invokevirtual 103, 3) := by decide +kernel
theorem dK5_change_67 : decode cK5_change 67 = .ok (.aload_n 0, 1) := by decide +kernel
theorem dK5_change_68 : decode cK5_change 68 = .ok (.getfield 75, 3) := by decide +kernel
theorem dK5_change_71 : decode cK5_change 71 = .ok (.iconst 1, 1) := by decide +kernel
theorem dK5_change_72 : decode cK5_change 72 = .ok (.isub, 1) := by decide +kernel
theorem dK5_change_73 : decode cK5_change 73 = .ok (.ireturn, 1) := by decide +kernel
theorem dK5_isThere_0 : decode cK5_isThere 0 = .ok (.iconst 0, 1) := by decide +kernel
theorem dK5_isThere_1 : decode cK5_isThere 1 = .ok (.istore_n 3, 1) := by decide +kernel
theorem dK5_isThere_2 : decode cK5_isThere 2 = .ok (.iconst 0, 1) := by decide +kernel
theorem dK5_isThere_3 : decode cK5_isThere 3 = .ok (.istore 4, 2) := by decide +kernel
theorem dK5_isThere_5 : decode cK5_isThere 5 = .ok (.iload 4, 2) := by decide +kernel
theorem dK5_isThere_7 : decode cK5_isThere 7 = .ok (.aload_n 0, 1) := by decide +kernel
theorem dK5_isThere_8 : decode cK5_isThere 8 = .ok (.getfield 75, 3) := by decide +kernel
theorem dK5_isThere_11 : decode cK5_isThere 11 = .ok (.if_icmp .ge 41, 3) := by decide +kernel
theorem dK5_isThere_14 : decode cK5_isThere 14 = .ok (.iload_n 3, 1) := by decide +kernel
theorem dK5_isThere_15 : decode cK5_isThere 15 = .ok (.ifCond .ne 25, 3) := by decide +kernel
theorem dK5_isThere_18 : decode cK5_isThere 18 = .ok (.aload_n 0, 1) := by decide +kernel
theorem dK5_isThere_19 : decode cK5_isThere 19 = .ok (.getfield 29, 3) := by decide +kernel
theorem dK5_isThere_22 : decode cK5_isThere 22 = .ok (.iload 4, 2) := by decide +kernel
theorem dK5_isThere_24 : decode cK5_isThere 24 = .ok (.baload, 1) := by decide +kernel
theorem dK5_isThere_25 : decode cK5_isThere 25 = .ok (.iload_n 1, 1) := by decide +kernel
theorem dK5_isThere_26 : decode cK5_isThere 26 = .ok (.if_icmp .ne 18, 3) := by decide +kernel
theorem dK5_isThere_29 : decode cK5_isThere 29 = .ok (.aload_n 0, 1) := by decide +kernel
theorem dK5_isThere_30 : decode cK5_isThere 30 = .ok (.getfield 32, 3) := by decide +kernel
theorem dK5_isThere_33 : decode cK5_isThere 33 = .ok (.iload 4, 2) := by decide +kernel
theorem dK5_isThere_35 : decode cK5_isThere 35 = .ok (.iaload, 1) := by decide +kernel
theorem dK5_isThere_36 : decode cK5_isThere 36 = .ok (.iload_n 2, 1) := by decide +kernel
theorem dK5_isThere_37 : decode cK5_isThere 37 = .ok (.if_icmp .ne 7, 3) := by decide +kernel
theorem dK5_isThere_40 : decode cK5_isThere 40 = .ok (.iconst 1, 1) := by decide +kernel
theorem dK5_isThere_41 : decode cK5_isThere 41 = .ok (.goto 4, 3) := by decide +kernel
theorem dK5_isThere_44 : decode cK5_isThere 44 = .ok (.iconst 0, 1) := by decide +kernel
theorem dK5_isThere_45 : decode cK5_isThere 45 = .ok (.istore_n 3, 1) := by decide +kernel
theorem dK5_isThere_46 : decode cK5_isThere 46 = .ok (.iinc 4 1, 3) := by decide +kernel
theorem dK5_isThere_49 : decode cK5_isThere 49 = .ok (.goto (-44), 3) := by decide +kernel
end
section
theorem dK5_isThere_52 : decode cK5_isThere 52 = .ok (.iload_n 3, 1) := by decide +kernel
theorem dK5_isThere_53 : decode cK5_isThere 53 = .ok (.ireturn, 1) := by decide +kernel
theorem dK5_enter_0 : decode cK5_enter 0 = .ok (.aload_n 0, 1) := by decide +kernel
theorem dK5_enter_1 : decode cK5_enter 1 = .ok (.getfield 29, 3) := by decide +kernel
theorem dK5_enter_4 : decode cK5_enter 4 = .ok (.aload_n 0, 1) := by decide +kernel
theorem dK5_enter_5 : decode cK5_enter 5 = .ok (.getfield 75, 3) := by decide +kernel
theorem dK5_enter_8 : decode cK5_enter 8 = .ok (.iload_n 1, 1) := by decide +kernel
theorem dK5_enter_9 : decode cK5_enter 9 = .ok (.bastore, 1) := by decide +kernel
theorem dK5_enter_10 : decode cK5_enter 10 = .ok (.aload_n 0, 1) := by decide +kernel
theorem dK5_enter_11 : decode cK5_enter 11 = .ok (.getfield 32, 3) := by decide +kernel
theorem dK5_enter_14 : decode cK5_enter 14 = .ok (.aload_n 0, 1) := by decide +kernel
theorem dK5_enter_15 : decode cK5_enter 15 = .ok (.getfield 75, 3) := by decide +kernel
theorem dK5_enter_18 : decode cK5_enter 18 = .ok (.iload_n 2, 1) := by decide +kernel
theorem dK5_enter_19 : decode cK5_enter 19 = .ok (.iastore, 1) := by decide +kernel
theorem dK5_enter_20 : decode cK5_enter 20 = .ok (.aload_n 0, 1) := by decide +kernel
theorem dK5_enter_21 : decode cK5_enter 21 = .ok (.getfield 35, 3) := by decide +kernel
theorem dK5_enter_24 : decode cK5_enter 24 = .ok (.aload_n 0, 1) := by decide +kernel
theorem dK5_enter_25 : decode cK5_enter 25 = .ok (.getfield 75, 3) := by decide +kernel
theorem dK5_enter_28 : decode cK5_enter 28 = .ok (.iload_n 3, 1) := by decide +kernel
theorem dK5_enter_29 : decode cK5_enter 29 = .ok (.iastore, 1) := by decide +kernel
theorem dK5_enter_30 : decode cK5_enter 30 = .ok (.aload_n 0, 1) := by decide +kernel
theorem dK5_enter_31 : decode cK5_enter 31 = .ok (.dup, 1) := by decide +kernel
theorem dK5_enter_32 : decode cK5_enter 32 = .ok (.getfield 75, 3) := by decide +kernel
theorem dK5_enter_35 : decode cK5_enter 35 = .ok (.iconst 1, 1) := by decide +kernel
theorem dK5_enter_36 : decode cK5_enter 36 = .ok (.iadd, 1) := by decide +kernel
theorem dK5_enter_37 : decode cK5_enter 37 = .ok (.putfield 75, 3) := by decide +kernel
theorem dK5_enter_40 : decode cK5_enter 40 = .ok (.return_, 1) := by decide +kernel
theorem dK5_suggest_0 : decode cK5_suggest 0 = .ok (.aload_n 0, 1) := by decide +kernel
theorem dK5_suggest_1 : decode cK5_suggest 1 = .ok (.iload_n 1, 1) := by decide +kernel
theorem dK5_suggest_2 : decode cK5_suggest 2 = .ok (.iload_n 2, 1) := by decide +kernel
theorem dK5_suggest_3 : decode cK5_suggest 3 = .ok (.invokevirtual 107, 3) := by decide +kernel
theorem dK5_suggest_6 : decode cK5_suggest 6 = .ok (.ifCond .ne 5, 3) := by decide +kernel
theorem dK5_suggest_9 : decode cK5_suggest 9 = .ok (.iconst (-1), 1) := by decide +kernel
theorem dK5_suggest_10 : decode cK5_suggest 10 = .ok (.ireturn, 1) := by decide +kernel
theorem dK5_suggest_11 : decode cK5_suggest 11 = .ok (.aload_n 0, 1) := by decide +kernel
theorem dK5_suggest_12 : decode cK5_suggest 12 = .ok (.iconst 0, 1) := by decide +kernel
theorem dK5_suggest_13 : decode cK5_suggest 13 = .ok (.invokevirtual 88, 3) := by decide +kernel
theorem dK5_suggest_16 : decode cK5_suggest 16 = .ok (.aload_n 0, 1) := by decide +kernel
theorem dK5_suggest_17 : decode cK5_suggest 17 = .ok (.iload_n 1, 1) := by decide +kernel
theorem dK5_suggest_18 : decode cK5_suggest 18 = .ok (.iload_n 2, 1) := by decide +kernel
theorem dK5_suggest_19 : decode cK5_suggest 19 = .ok (.invokevirtual 85, 3) := by decide +kernel
theorem dK5_suggest_22 : decode cK5_suggest 22 = .ok (.ifCond .ne 6, 3) := by decide +kernel
theorem dK5_suggest_25 : decode cK5_suggest 25 = .ok (.bipush (-2), 2) := by decide +kernel
theorem dK5_suggest_27 : decode cK5_suggest 27 = .ok (.ireturn, 1) := by decide +kernel
theorem dK5_suggest_28 : decode cK5_suggest 28 = .ok (.aload_n 0, 1) := by decide +kernel
theorem dK5_suggest_29 : decode cK5_suggest 29 = .ok (.getfield 75, 3) := by decide +kernel
theorem dK5_suggest_32 : decode cK5_suggest 32 = .ok (.istore_n 3, 1) := by decide +kernel
theorem dK5_suggest_33 : decode cK5_suggest 33 = .ok (.aload_n 0, 1) := by decide +kernel
theorem dK5_suggest_34 : decode cK5_suggest 34 = .ok (.getfield 23, 3) := by decide +kernel
theorem dK5_suggest_37 : decode cK5_suggest 37 = .ok (.iload_n 1, 1) := by decide +kernel
theorem dK5_suggest_38 : decode cK5_suggest 38 = .ok (.iaload, 1) := by decide +kernel
theorem dK5_suggest_39 : decode cK5_suggest 39 = .ok (.istore 4, 2) := by decide +kernel
theorem dK5_suggest_41 : decode cK5_suggest 41 = .ok (.aload_n 0, 1) := by decide +kernel
theorem dK5_suggest_42 : decode cK5_suggest 42 = .ok (.getfield 26, 3) := by decide +kernel
theorem dK5_suggest_45 : decode cK5_suggest 45 = .ok (.iload_n 1, 1) := by decide +kernel
theorem dK5_suggest_46 : decode cK5_suggest 46 = .ok (.iaload, 1) := by decide +kernel
theorem dK5_suggest_47 : decode cK5_suggest 47 = .ok (.istore 5, 2) := by decide +kernel
theorem dK5_suggest_49 : decode cK5_suggest 49 = .ok (.aload_n 0, 1) := by decide +kernel
theorem dK5_suggest_50 : decode cK5_suggest 50 = .ok (.getfield 13, 3) := by decide +kernel
theorem dK5_suggest_53 : decode cK5_suggest 53 = .ok (.iload_n 2, 1) := by decide +kernel
theorem dK5_suggest_54 : decode cK5_suggest 54 = .ok (.iconst 0, 1) := by decide +kernel
theorem dK5_suggest_55 : decode cK5_suggest 55 = .ok (.aload_n 0, 1) := by decide +kernel
theorem dK5_suggest_56 : decode cK5_suggest 56 = .ok (.getfield 20, 3) := by decide +kernel
theorem dK5_suggest_59 : decode cK5_suggest 59 = .ok (.iload_n 1, 1) := by decide +kernel
theorem dK5_suggest_60 : decode cK5_suggest 60 = .ok (.iaload, 1) := by decide +kernel
theorem dK5_suggest_61 : decode cK5_suggest 61 = .ok (.invokestatic 68, 3) := by decide +kernel
theorem dK5_suggest_64 : decode cK5_suggest 64 = .ok (.baload, 1) := by decide +kernel
theorem dK5_suggest_65 : decode cK5_suggest 65 = .ok (.ifCond .eq 19, 3) := by decide +kernel
theorem dK5_suggest_68 : decode cK5_suggest 68 = .ok (.aload_n 0, 1) := by decide +kernel
theorem dK5_suggest_69 : decode cK5_suggest 69 = .ok (.iconst 0, 1) := by decide +kernel
theorem dK5_suggest_70 : decode cK5_suggest 70 = .ok (.iload_n 2, 1) := by decide +kernel
theorem dK5_suggest_71 : decode cK5_suggest 71 = .ok (.iconst 0, 1) := by decide +kernel
theorem dK5_suggest_72 : decode cK5_suggest 72 = .ok (.aload_n 0, 1) := by decide +kernel
theorem dK5_suggest_73 : decode cK5_suggest 73 = .ok (.getfield 20, 3) := by decide +kernel
theorem dK5_suggest_76 : decode cK5_suggest 76 = .ok (.iload_n 1, 1) := by decide +kernel
theorem dK5_suggest_77 : decode cK5_suggest 77 = .ok (.iaload, 1) := by decide +kernel
theorem dK5_suggest_78 : decode cK5_suggest 78 = .ok (.invokestatic 68, 3) := by decide +kernel
theorem dK5_suggest_81 : decode cK5_suggest 81 = .ok (.invokevirtual 110, 3) := by decide +kernel
theorem dK5_suggest_84 : decode cK5_suggest 84 = .ok (.iconst 0, 1) := by decide +kernel
theorem dK5_suggest_85 : decode cK5_suggest 85 = .ok (.istore 6, 2) := by decide +kernel
theorem dK5_suggest_87 : decode cK5_suggest 87 = .ok (.iload 6, 2) := by decide +kernel
theorem dK5_suggest_89 : decode cK5_suggest 89 = .ok (.bipush 12, 2) := by decide +kernel
theorem dK5_suggest_91 : decode cK5_suggest 91 = .ok (.if_icmp .ge 296, 3) := by decide +kernel
theorem dK5_suggest_94 : decode cK5_suggest 94 = .ok (.aload_n 0, 1) := by decide +kernel
theorem dK5_suggest_95 : decode cK5_suggest 95 = .ok (.getfield 13, 3) := by decide +kernel
theorem dK5_suggest_98 : decode cK5_suggest 98 = .ok (.iload_n 2, 1) := by decide +kernel
theorem dK5_suggest_99 : decode cK5_suggest 99 = .ok (.iload 4, 2) := by decide +kernel
theorem dK5_suggest_101 : decode cK5_suggest 101 = .ok (.iload 6, 2) := by decide +kernel
theorem dK5_suggest_103 : decode cK5_suggest 103 = .ok (.invokestatic 68, 3) := by decide +kernel
theorem dK5_suggest_106 : decode cK5_suggest 106 = .ok (.baload, 1) := by decide +kernel
theorem dK5_suggest_107 : decode cK5_suggest 107 = .ok (.istore 7, 2) := by decide +kernel
theorem dK5_suggest_109 : decode cK5_suggest 109 = .ok (.aload_n 0, 1) := by decide +kernel
theorem dK5_suggest_110 : decode cK5_suggest 110 = .ok (.getfield 16, 3) := by decide +kernel
theorem dK5_suggest_113 : decode cK5_suggest 113 = .ok (.iload_n 1, 1) := by decide +kernel
theorem dK5_suggest_114 : decode cK5_suggest 114 = .ok (.iaload, 1) := by decide +kernel
theorem dK5_suggest_115 : decode cK5_suggest 115 = .ok (.iconst 3, 1) := by decide +kernel
theorem dK5_suggest_116 : decode cK5_suggest 116 = .ok (.if_icmp .le 23, 3) := by decide +kernel
theorem dK5_suggest_119 : decode cK5_suggest 119 = .ok (.aload_n 0, 1) := by decide +kernel
theorem dK5_suggest_120 : decode cK5_suggest 120 = .ok (.getfield 13, 3) := by decide +kernel
theorem dK5_suggest_123 : decode cK5_suggest 123 = .ok (.iload_n 2, 1) := by decide +kernel
theorem dK5_suggest_124 : decode cK5_suggest 124 = .ok (.iload 5, 2) := by decide +kernel
theorem dK5_suggest_126 : decode cK5_suggest 126 = .ok (.iload 6, 2) := by decide +kernel
theorem dK5_suggest_128 : decode cK5_suggest 128 = .ok (.invokestatic 68, 3) := by decide +kernel
theorem dK5_suggest_131 : decode cK5_suggest 131 = .ok (.baload, 1) := by decide +kernel
theorem dK5_suggest_132 : decode cK5_suggest 132 = .ok (.ifCond .eq 7, 3) := by decide +kernel
theorem dK5_suggest_135 : decode cK5_suggest 135 = .ok (.iconst 1, 1) := by decide +kernel
theorem dK5_suggest_136 : decode cK5_suggest 136 = .ok (.goto 4, 3) := by decide +kernel
theorem dK5_suggest_139 : decode cK5_suggest 139 = .ok (.iconst 0, 1) := by decide +kernel
theorem dK5_suggest_140 : decode cK5_suggest 140 = .ok (.istore 8, 2) := by decide +kernel
theorem dK5_suggest_142 : decode cK5_suggest 142 = .ok (.aload_n 0, 1) := by decide +kernel
theorem dK5_suggest_143 : decode cK5_suggest 143 = .ok (.getfield 16, 3) := by decide +kernel
theorem dK5_suggest_146 : decode cK5_suggest 146 = .ok (.iload_n 1, 1) := by decide +kernel
theorem dK5_suggest_147 : decode cK5_suggest 147 = .ok (.iaload, 1) := by decide +kernel
theorem dK5_suggest_148 : decode cK5_suggest 148 = .ok (.tableswitch 197 0 4 #[36, 57, 78, 123, 151], 36) := by decide +kernel
theorem dK5_suggest_184 : decode cK5_suggest 184 = .ok (.iload 7, 2) := by decide +kernel
theorem dK5_suggest_186 : decode cK5_suggest 186 = .ok (.ifCond .ne 195, 3) := by decide +kernel
theorem dK5_suggest_189 : decode cK5_suggest 189 = .ok (.aload_n 0, 1) := by decide +kernel
theorem dK5_suggest_190 : decode cK5_suggest 190 = .ok (.iconst 1, 1) := by decide +kernel
theorem dK5_suggest_191 : decode cK5_suggest 191 = .ok (.iload_n 2, 1) := by decide +kernel
theorem dK5_suggest_192 : decode cK5_suggest 192 = .ok (.iload 4, 2) := by decide +kernel
theorem dK5_suggest_194 : decode cK5_suggest 194 = .ok (.iload 6, 2) := by decide +kernel
theorem dK5_suggest_196 : decode cK5_suggest 196 = .ok (.invokestatic 68, 3) := by decide +kernel
theorem dK5_suggest_199 : decode cK5_suggest 199 = .ok (.invokevirtual 110, 3) := by decide +kernel
theorem dK5_suggest_202 : decode cK5_suggest 202 = .ok (.goto 179, 3) := by decide +kernel
theorem dK5_suggest_205 : decode cK5_suggest 205 = .ok (.iload 7, 2) := by decide +kernel
theorem dK5_suggest_207 : decode cK5_suggest 207 = .ok (.ifCond .eq 174, 3) := by decide +kernel
theorem dK5_suggest_210 : decode cK5_suggest 210 = .ok (.aload_n 0, 1) := by decide +kernel
theorem dK5_suggest_211 : decode cK5_suggest 211 = .ok (.iconst 0, 1) := by decide +kernel
theorem dK5_suggest_212 : decode cK5_suggest 212 = .ok (.iload_n 2, 1) := by decide +kernel
theorem dK5_suggest_213 : decode cK5_suggest 213 = .ok (.iload 4, 2) := by decide +kernel
theorem dK5_suggest_215 : decode cK5_suggest 215 = .ok (.iload 6, 2) := by decide +kernel
theorem dK5_suggest_217 : decode cK5_suggest 217 = .ok (.invokestatic 68, 3) := by decide +kernel
theorem dK5_suggest_220 : decode cK5_suggest 220 = .ok (.invokevirtual 110, 3) := by decide +kernel
theorem dK5_suggest_223 : decode cK5_suggest 223 = .ok (.goto 158, 3) := by decide +kernel
theorem dK5_suggest_226 : decode cK5_suggest 226 = .ok (.iload 7, 2) := by decide +kernel
theorem dK5_suggest_228 : decode cK5_suggest 228 = .ok (.ifCond .eq 153, 3) := by decide +kernel
theorem dK5_suggest_231 : decode cK5_suggest 231 = .ok (.aload_n 0, 1) := by decide +kernel
theorem dK5_suggest_232 : decode cK5_suggest 232 = .ok (.iload 6, 2) := by decide +kernel
theorem dK5_suggest_234 : decode cK5_suggest 234 = .ok (.iload 5, 2) := by decide +kernel
theorem dK5_suggest_236 : decode cK5_suggest 236 = .ok (.invokevirtual 78, 3) := by decide +kernel
theorem dK5_suggest_239 : decode cK5_suggest 239 = .ok (.ifCond .ne 142, 3) := by decide +kernel
theorem dK5_suggest_242 : decode cK5_suggest 242 = .ok (.aload_n 0, 1) := by decide +kernel
theorem dK5_suggest_243 : decode cK5_suggest 243 = .ok (.iconst 0, 1) := by decide +kernel
theorem dK5_suggest_244 : decode cK5_suggest 244 = .ok (.iload_n 2, 1) := by decide +kernel
theorem dK5_suggest_245 : decode cK5_suggest 245 = .ok (.iload 4, 2) := by decide +kernel
theorem dK5_suggest_247 : decode cK5_suggest 247 = .ok (.iload 6, 2) := by decide +kernel
theorem dK5_suggest_249 : decode cK5_suggest 249 = .ok (.invokestatic 68, 3) := by decide +kernel
theorem dK5_suggest_252 : decode cK5_suggest 252 = .ok (.invokevirtual 110, 3) := by decide +kernel
theorem dK5_suggest_255 : decode cK5_suggest 255 = .ok (.aload_n 0, 1) := by decide +kernel
theorem dK5_suggest_256 : decode cK5_suggest 256 = .ok (.iconst 1, 1) := by decide +kernel
theorem dK5_suggest_257 : decode cK5_suggest 257 = .ok (.iload 6, 2) := by decide +kernel
theorem dK5_suggest_259 : decode cK5_suggest 259 = .ok (.iconst 0, 1) := by decide +kernel
theorem dK5_suggest_260 : decode cK5_suggest 260 = .ok (.iload 5, 2) := by decide +kernel
theorem dK5_suggest_262 : decode cK5_suggest 262 = .ok (.invokestatic 68, 3) := by decide +kernel
theorem dK5_suggest_265 : decode cK5_suggest 265 = .ok (.invokevirtual 110, 3) := by decide +kernel
theorem dK5_suggest_268 : decode cK5_suggest 268 = .ok (.goto 113, 3) := by decide +kernel
theorem dK5_suggest_271 : decode cK5_suggest 271 = .ok (.iload 7, 2) := by decide +kernel
theorem dK5_suggest_273 : decode cK5_suggest 273 = .ok (.ifCond .eq 108, 3) := by decide +kernel
theorem dK5_suggest_276 : decode cK5_suggest 276 = .ok (.iload 6, 2) := by decide +kernel
theorem dK5_suggest_278 : decode cK5_suggest 278 = .ok (.iload 5, 2) := by decide +kernel
theorem dK5_suggest_280 : decode cK5_suggest 280 = .ok (.if_icmp .ne 101, 3) := by decide +kernel
theorem dK5_suggest_283 : decode cK5_suggest 283 = .ok (.aload_n 0, 1) := by decide +kernel
theorem dK5_suggest_284 : decode cK5_suggest 284 = .ok (.iconst 0, 1) := by decide +kernel
theorem dK5_suggest_285 : decode cK5_suggest 285 = .ok (.iload_n 2, 1) := by decide +kernel
theorem dK5_suggest_286 : decode cK5_suggest 286 = .ok (.iload 4, 2) := by decide +kernel
theorem dK5_suggest_288 : decode cK5_suggest 288 = .ok (.iload 6, 2) := by decide +kernel
theorem dK5_suggest_290 : decode cK5_suggest 290 = .ok (.invokestatic 68, 3) := by decide +kernel
theorem dK5_suggest_293 : decode cK5_suggest 293 = .ok (.invokevirtual 110, 3) := by decide +kernel
theorem dK5_suggest_296 : decode cK5_suggest 296 = .ok (.goto 85, 3) := by decide +kernel
theorem dK5_suggest_299 : decode cK5_suggest 299 = .ok (.iload 7, 2) := by decide +kernel
theorem dK5_suggest_301 : decode cK5_suggest 301 = .ok (.iload 8, 2) := by decide +kernel
theorem dK5_suggest_303 : decode cK5_suggest 303 = .ok (.if_icmp .eq 78, 3) := by decide +kernel
theorem dK5_suggest_306 : decode cK5_suggest 306 = .ok (.aload_n 0, 1) := by decide +kernel
theorem dK5_suggest_307 : decode cK5_suggest 307 = .ok (.iload 7, 2) := by decide +kernel
theorem dK5_suggest_309 : decode cK5_suggest 309 = .ok (.ifCond .ne 7, 3) := by decide +kernel
theorem dK5_suggest_312 : decode cK5_suggest 312 = .ok (.iconst 1, 1) := by decide +kernel
theorem dK5_suggest_313 : decode cK5_suggest 313 = .ok (.goto 4, 3) := by decide +kernel
theorem dK5_suggest_316 : decode cK5_suggest 316 = .ok (.iconst 0, 1) := by decide +kernel
theorem dK5_suggest_317 : decode cK5_suggest 317 = .ok (.iload_n 2, 1) := by decide +kernel
theorem dK5_suggest_318 : decode cK5_suggest 318 = .ok (.iload 4, 2) := by decide +kernel
theorem dK5_suggest_320 : decode cK5_suggest 320 = .ok (.iload 6, 2) := by decide +kernel
theorem dK5_suggest_322 : decode cK5_suggest 322 = .ok (.invokestatic 68, 3) := by decide +kernel
theorem dK5_suggest_325 : decode cK5_suggest 325 = .ok (.invokevirtual 110, 3) := by decide +kernel
theorem dK5_suggest_328 : decode cK5_suggest 328 = .ok (.aload_n 0, 1) := by decide +kernel
theorem dK5_suggest_329 : decode cK5_suggest 329 = .ok (.iload 7, 2) := by decide +kernel
theorem dK5_suggest_331 : decode cK5_suggest 331 = .ok (.iload_n 2, 1) := by decide +kernel
theorem dK5_suggest_332 : decode cK5_suggest 332 = .ok (.iload 5, 2) := by decide +kernel
theorem dK5_suggest_334 : decode cK5_suggest 334 = .ok (.iload 6, 2) := by decide +kernel
theorem dK5_suggest_336 : decode cK5_suggest 336 = .ok (.invokestatic 68, 3) := by decide +kernel
theorem dK5_suggest_339 : decode cK5_suggest 339 = .ok (.invokevirtual 110, 3) := by decide +kernel
theorem dK5_suggest_342 : decode cK5_suggest 342 = .ok (.goto 39, 3) := by decide +kernel
theorem dK5_suggest_345 : decode cK5_suggest 345 = .ok (.iload 7, 2) := by decide +kernel
theorem dK5_suggest_347 : decode cK5_suggest 347 = .ok (.ifCond .eq 34, 3) := by decide +kernel
theorem dK5_suggest_350 : decode cK5_suggest 350 = .ok (.iload 8, 2) := by decide +kernel
theorem dK5_suggest_352 : decode cK5_suggest 352 = .ok (.ifCond .eq 29, 3) := by decide +kernel
theorem dK5_suggest_355 : decode cK5_suggest 355 = .ok (.aload_n 0, 1) := by decide +kernel
theorem dK5_suggest_356 : decode cK5_suggest 356 = .ok (.iconst 0, 1) := by decide +kernel
theorem dK5_suggest_357 : decode cK5_suggest 357 = .ok (.iload_n 2, 1) := by decide +kernel
theorem dK5_suggest_358 : decode cK5_suggest 358 = .ok (.iload 4, 2) := by decide +kernel
theorem dK5_suggest_360 : decode cK5_suggest 360 = .ok (.iload 6, 2) := by decide +kernel
theorem dK5_suggest_362 : decode cK5_suggest 362 = .ok (.invokestatic 68, 3) := by decide +kernel
theorem dK5_suggest_365 : decode cK5_suggest 365 = .ok (.invokevirtual 110, 3) := by decide +kernel
theorem dK5_suggest_368 : decode cK5_suggest 368 = .ok (.aload_n 0, 1) := by decide +kernel
theorem dK5_suggest_369 : decode cK5_suggest 369 = .ok (.iconst 0, 1) := by decide +kernel
theorem dK5_suggest_370 : decode cK5_suggest 370 = .ok (.iload_n 2, 1) := by decide +kernel
theorem dK5_suggest_371 : decode cK5_suggest 371 = .ok (.iload 5, 2) := by decide +kernel
theorem dK5_suggest_373 : decode cK5_suggest 373 = .ok (.iload 6, 2) := by decide +kernel
theorem dK5_suggest_375 : decode cK5_suggest 375 = .ok (.invokestatic 68, 3) := by decide +kernel
theorem dK5_suggest_378 : decode cK5_suggest 378 = .ok (.invokevirtual 110, 3) := by decide +kernel
theorem dK5_suggest_381 : decode cK5_suggest 381 = .ok (.iinc 6 1, 3) := by decide +kernel
theorem dK5_suggest_384 : decode cK5_suggest 384 = .ok (.goto (-297), 3) := by decide +kernel
theorem dK5_suggest_387 : decode cK5_suggest 387 = .ok (.aload_n 0, 1) := by decide +kernel
theorem dK5_suggest_388 : decode cK5_suggest 388 = .ok (.getfield 75, 3) := by decide +kernel
theorem dK5_suggest_391 : decode cK5_suggest 391 = .ok (.iload_n 3, 1) := by decide +kernel
theorem dK5_suggest_392 : decode cK5_suggest 392 = .ok (.isub, 1) := by decide +kernel
theorem dK5_suggest_393 : decode cK5_suggest 393 = .ok (.ireturn, 1) := by decide +kernel
theorem dK5_isPair_0 : decode cK5_isPair 0 = .ok (.iload_n 1, 1) := by decide +kernel
theorem dK5_isPair_1 : decode cK5_isPair 1 = .ok (.iconst 0, 1) := by decide +kernel
theorem dK5_isPair_2 : decode cK5_isPair 2 = .ok (.aload_n 0, 1) := by decide +kernel
theorem dK5_isPair_3 : decode cK5_isPair 3 = .ok (.getfield 72, 3) := by decide +kernel
theorem dK5_isPair_6 : decode cK5_isPair 6 = .ok (.iconst 1, 1) := by decide +kernel
theorem dK5_isPair_7 : decode cK5_isPair 7 = .ok (.isub, 1) := by decide +kernel
theorem dK5_isPair_8 : decode cK5_isPair 8 = .ok (.invokestatic 61, 3) := by decide +kernel
theorem dK5_isPair_11 : decode cK5_isPair 11 = .ok (.ifCond .eq 17, 3) := by decide +kernel
theorem dK5_isPair_14 : decode cK5_isPair 14 = .ok (.iload_n 2, 1) := by decide +kernel
theorem dK5_isPair_15 : decode cK5_isPair 15 = .ok (.iconst 0, 1) := by decide +kernel
theorem dK5_isPair_16 : decode cK5_isPair 16 = .ok (.bipush 11, 2) := by decide +kernel
theorem dK5_isPair_18 : decode cK5_isPair 18 = .ok (.invokestatic 61, 3) := by decide +kernel
theorem dK5_isPair_21 : decode cK5_isPair 21 = .ok (.ifCond .eq 7, 3) := by decide +kernel
theorem dK5_isPair_24 : decode cK5_isPair 24 = .ok (.iconst 1, 1) := by decide +kernel
theorem dK5_isPair_25 : decode cK5_isPair 25 = .ok (.goto 4, 3) := by decide +kernel
theorem dK5_isPair_28 : decode cK5_isPair 28 = .ok (.iconst 0, 1) := by decide +kernel
theorem dK5_isPair_29 : decode cK5_isPair 29 = .ok (.ireturn, 1) := by decide +kernel
theorem dK5_offer_0 : decode cK5_offer 0 = .ok (.aload_n 0, 1) := by decide +kernel
theorem dK5_offer_1 : decode cK5_offer 1 = .ok (.getfield 75, 3) := by decide +kernel
theorem dK5_offer_4 : decode cK5_offer 4 = .ok (.bipush 12, 2) := by decide +kernel
theorem dK5_offer_6 : decode cK5_offer 6 = .ok (.if_icmp .ge 19, 3) := by decide +kernel
theorem dK5_offer_9 : decode cK5_offer 9 = .ok (.aload_n 0, 1) := by decide +kernel
theorem dK5_offer_10 : decode cK5_offer 10 = .ok (.iload_n 1, 1) := by decide +kernel
theorem dK5_offer_11 : decode cK5_offer 11 = .ok (.iload_n 2, 1) := by decide +kernel
theorem dK5_offer_12 : decode cK5_offer 12 = .ok (.invokevirtual 99, 3) := by decide +kernel
theorem dK5_offer_15 : decode cK5_offer 15 = .ok (.ifCond .ne 10, 3) := by decide +kernel
theorem dK5_offer_18 : decode cK5_offer 18 = .ok (.aload_n 0, 1) := by decide +kernel
theorem dK5_offer_19 : decode cK5_offer 19 = .ok (.iload_n 1, 1) := by decide +kernel
theorem dK5_offer_20 : decode cK5_offer 20 = .ok (.iload_n 2, 1) := by decide +kernel
theorem dK5_offer_21 : decode cK5_offer 21 = .ok (.iconst 1, 1) := by decide +kernel
theorem dK5_offer_22 : decode cK5_offer 22 = .ok (.invokevirtual 103, 3) := by decide +kernel
theorem dK5_offer_25 : decode cK5_offer 25 = .ok (.return_, 1) := by decide +kernel
theorem dK5_clear_0 : decode cK5_clear 0 = .ok (.aload_n 0, 1) := by decide +kernel
theorem dK5_clear_1 : decode cK5_clear 1 = .ok (.getfield 75, 3) := by decide +kernel
theorem dK5_clear_4 : decode cK5_clear 4 = .ok (.istore_n 1, 1) := by decide +kernel
theorem dK5_clear_5 : decode cK5_clear 5 = .ok (.aload_n 0, 1) := by decide +kernel
theorem dK5_clear_6 : decode cK5_clear 6 = .ok (.iconst 0, 1) := by decide +kernel
theorem dK5_clear_7 : decode cK5_clear 7 = .ok (.putfield 75, 3) := by decide +kernel
theorem dK5_clear_10 : decode cK5_clear 10 = .ok (.aload_n 0, 1) := by decide +kernel
theorem dK5_clear_11 : decode cK5_clear 11 = .ok (.iconst 0, 1) := by decide +kernel
theorem dK5_clear_12 : decode cK5_clear 12 = .ok (.putfield 114, 3) := by decide +kernel
theorem dK5_clear_15 : decode cK5_clear 15 = .ok (.aload_n 0, 1) := by decide +kernel
theorem dK5_clear_16 : decode cK5_clear 16 = .ok (.iconst 0, 1) := by decide +kernel
theorem dK5_clear_17 : decode cK5_clear 17 = .ok (.putfield 117, 3) := by decide +kernel
theorem dK5_clear_20 : decode cK5_clear 20 = .ok (.iload_n 1, 1) := by decide +kernel
theorem dK5_clear_21 : decode cK5_clear 21 = .ok (.ireturn, 1) := by decide +kernel
theorem dK5_tries_0 : decode cK5_tries 0 = .ok (.iload_n 1, 1) := by decide +kernel
theorem dK5_tries_1 : decode cK5_tries 1 = .ok (.iconst 1, 1) := by decide +kernel
theorem dK5_tries_2 : decode cK5_tries 2 = .ok (.sipush 5000, 3) := by decide +kernel
theorem dK5_tries_5 : decode cK5_tries 5 = .ok (.invokestatic 61, 3) := by decide +kernel
theorem dK5_tries_8 : decode cK5_tries 8 = .ok (.ifCond .ne 5, 3) := by decide +kernel
theorem dK5_tries_11 : decode cK5_tries 11 = .ok (.iconst (-1), 1) := by decide +kernel
theorem dK5_tries_12 : decode cK5_tries 12 = .ok (.ireturn, 1) := by decide +kernel
theorem dK5_tries_13 : decode cK5_tries 13 = .ok (.aload_n 0, 1) := by decide +kernel
theorem dK5_tries_14 : decode cK5_tries 14 = .ok (.iload_n 1, 1) := by decide +kernel
theorem dK5_tries_15 : decode cK5_tries 15 = .ok (.putfield 38, 3) := by decide +kernel
theorem dK5_tries_18 : decode cK5_tries 18 = .ok (.iload_n 1, 1) := by decide +kernel
theorem dK5_tries_19 : decode cK5_tries 19 = .ok (.ireturn, 1) := by decide +kernel
theorem dK5_find_0 : decode cK5_find 0 = .ok (.aload_n 0, 1) := by decide +kernel
theorem dK5_find_1 : decode cK5_find 1 = .ok (.iload_n 1, 1) := by decide +kernel
theorem dK5_find_2 : decode cK5_find 2 = .ok (.iload_n 2, 1) := by decide +kernel
theorem dK5_find_3 : decode cK5_find 3 = .ok (.invokevirtual 107, 3) := by decide +kernel
theorem dK5_find_6 : decode cK5_find 6 = .ok (.ifCond .eq 13, 3) := by decide +kernel
theorem dK5_find_9 : decode cK5_find 9 = .ok (.iload_n 3, 1) := by decide +kernel
theorem dK5_find_10 : decode cK5_find 10 = .ok (.iconst 1, 1) := by decide +kernel
theorem dK5_find_11 : decode cK5_find 11 = .ok (.bipush 12, 2) := by decide +kernel
theorem dK5_find_13 : decode cK5_find 13 = .ok (.invokestatic 61, 3) := by decide +kernel
theorem dK5_find_16 : decode cK5_find 16 = .ok (.ifCond .ne 5, 3) := by decide +kernel
theorem dK5_find_19 : decode cK5_find 19 = .ok (.iconst (-1), 1) := by decide +kernel
theorem dK5_find_20 : decode cK5_find 20 = .ok (.ireturn, 1) := by decide +kernel
theorem dK5_find_21 : decode cK5_find 21 = .ok (.aload_n 0, 1) := by decide +kernel
theorem dK5_find_22 : decode cK5_find 22 = .ok (.iconst 0, 1) := by decide +kernel
theorem dK5_find_23 : decode cK5_find 23 = .ok (.invokevirtual 88, 3) := by decide +kernel
theorem dK5_find_26 : decode cK5_find 26 = .ok (.aload_n 0, 1) := by decide +kernel
theorem dK5_find_27 : decode cK5_find 27 = .ok (.iload_n 1, 1) := by decide +kernel
theorem dK5_find_28 : decode cK5_find 28 = .ok (.iload_n 2, 1) := by decide +kernel
theorem dK5_find_29 : decode cK5_find 29 = .ok (.invokevirtual 85, 3) := by decide +kernel
theorem dK5_find_32 : decode cK5_find 32 = .ok (.ifCond .ne 6, 3) := by decide +kernel
theorem dK5_find_35 : decode cK5_find 35 = .ok (.bipush (-2), 2) := by decide +kernel
theorem dK5_find_37 : decode cK5_find 37 = .ok (.ireturn, 1) := by decide +kernel
theorem dK5_find_38 : decode cK5_find 38 = .ok (.aload_n 0, 1) := by decide +kernel
theorem dK5_find_39 : decode cK5_find 39 = .ok (.iconst 0, 1) := by decide +kernel
theorem dK5_find_40 : decode cK5_find 40 = .ok (.putfield 114, 3) := by decide +kernel
theorem dK5_find_43 : decode cK5_find 43 = .ok (.aload_n 0, 1) := by decide +kernel
theorem dK5_find_44 : decode cK5_find 44 = .ok (.iconst 0, 1) := by decide +kernel
theorem dK5_find_45 : decode cK5_find 45 = .ok (.putfield 120, 3) := by decide +kernel
theorem dK5_find_48 : decode cK5_find 48 = .ok (.aload_n 0, 1) := by decide +kernel
theorem dK5_find_49 : decode cK5_find 49 = .ok (.iconst 1, 1) := by decide +kernel
theorem dK5_find_50 : decode cK5_find 50 = .ok (.putfield 57, 3) := by decide +kernel
theorem dK5_find_53 : decode cK5_find 53 = .ok (.iconst 1, 1) := by decide +kernel
theorem dK5_find_54 : decode cK5_find 54 = .ok (.istore 4, 2) := by decide +kernel
theorem dK5_find_56 : decode cK5_find 56 = .ok (.iload 4, 2) := by decide +kernel
theorem dK5_find_58 : decode cK5_find 58 = .ok (.iload_n 3, 1) := by decide +kernel
theorem dK5_find_59 : decode cK5_find 59 = .ok (.if_icmp .gt 82, 3) := by decide +kernel
theorem dK5_find_62 : decode cK5_find 62 = .ok (.iload 4, 2) := by decide +kernel
theorem dK5_find_64 : decode cK5_find 64 = .ok (.aload_n 0, 1) := by decide +kernel
theorem dK5_find_65 : decode cK5_find 65 = .ok (.getfield 75, 3) := by decide +kernel
theorem dK5_find_68 : decode cK5_find 68 = .ok (.if_icmp .gt 73, 3) := by decide +kernel
theorem dK5_find_71 : decode cK5_find 71 = .ok (.aload_n 0, 1) := by decide +kernel
theorem dK5_find_72 : decode cK5_find 72 = .ok (.getfield 57, 3) := by decide +kernel
theorem dK5_find_75 : decode cK5_find 75 = .ok (.ifCond .eq 66, 3) := by decide +kernel
theorem dK5_find_78 : decode cK5_find 78 = .ok (.aload_n 0, 1) := by decide +kernel
theorem dK5_find_79 : decode cK5_find 79 = .ok (.iload 4, 2) := by decide +kernel
theorem dK5_find_81 : decode cK5_find 81 = .ok (.invokevirtual 123, 3) := by decide +kernel
theorem dK5_find_84 : decode cK5_find 84 = .ok (.iconst 1, 1) := by decide +kernel
theorem dK5_find_85 : decode cK5_find 85 = .ok (.istore 5, 2) := by decide +kernel
theorem dK5_find_87 : decode cK5_find 87 = .ok (.iload 5, 2) := by decide +kernel
theorem dK5_find_89 : decode cK5_find 89 = .ok (.ifCond .eq 46, 3) := by decide +kernel
theorem dK5_find_92 : decode cK5_find 92 = .ok (.aload_n 0, 1) := by decide +kernel
theorem dK5_find_93 : decode cK5_find 93 = .ok (.getfield 57, 3) := by decide +kernel
theorem dK5_find_96 : decode cK5_find 96 = .ok (.ifCond .eq 39, 3) := by decide +kernel
theorem dK5_find_99 : decode cK5_find 99 = .ok (.aload_n 0, 1) := by decide +kernel
theorem dK5_find_100 : decode cK5_find 100 = .ok (.iload 4, 2) := by decide +kernel
theorem dK5_find_102 : decode cK5_find 102 = .ok (.invokevirtual 126, 3) := by decide +kernel
theorem dK5_find_105 : decode cK5_find 105 = .ok (.istore 6, 2) := by decide +kernel
theorem dK5_find_107 : decode cK5_find 107 = .ok (.aload_n 0, 1) := by decide +kernel
theorem dK5_find_108 : decode cK5_find 108 = .ok (.iload 6, 2) := by decide +kernel
theorem dK5_find_110 : decode cK5_find 110 = .ok (.invokevirtual 130, 3) := by decide +kernel
theorem dK5_find_113 : decode cK5_find 113 = .ok (.ifCond .ne 11, 3) := by decide +kernel
theorem dK5_find_116 : decode cK5_find 116 = .ok (.aload_n 0, 1) := by decide +kernel
theorem dK5_find_117 : decode cK5_find 117 = .ok (.iload 6, 2) := by decide +kernel
theorem dK5_find_119 : decode cK5_find 119 = .ok (.iload_n 1, 1) := by decide +kernel
theorem dK5_find_120 : decode cK5_find 120 = .ok (.iload_n 2, 1) := by decide +kernel
theorem dK5_find_121 : decode cK5_find 121 = .ok (.invokevirtual 134, 3) := by decide +kernel
theorem dK5_find_124 : decode cK5_find 124 = .ok (.aload_n 0, 1) := by decide +kernel
theorem dK5_find_125 : decode cK5_find 125 = .ok (.iload 4, 2) := by decide +kernel
theorem dK5_find_127 : decode cK5_find 127 = .ok (.invokevirtual 138, 3) := by decide +kernel
theorem dK5_find_130 : decode cK5_find 130 = .ok (.istore 5, 2) := by decide +kernel
theorem dK5_find_132 : decode cK5_find 132 = .ok (.goto (-45), 3) := by decide +kernel
theorem dK5_find_135 : decode cK5_find 135 = .ok (.iinc 4 1, 3) := by decide +kernel
theorem dK5_find_138 : decode cK5_find 138 = .ok (.goto (-82), 3) := by decide +kernel
theorem dK5_find_141 : decode cK5_find 141 = .ok (.aload_n 0, 1) := by decide +kernel
theorem dK5_find_142 : decode cK5_find 142 = .ok (.invokevirtual 141, 3) := by decide +kernel
theorem dK5_find_145 : decode cK5_find 145 = .ok (.aload_n 0, 1) := by decide +kernel
theorem dK5_find_146 : decode cK5_find 146 = .ok (.getfield 114, 3) := by decide +kernel
theorem dK5_find_149 : decode cK5_find 149 = .ok (.ireturn, 1) := by decide +kernel
theorem dK5_first_0 : decode cK5_first 0 = .ok (.iconst 0, 1) := by decide +kernel
theorem dK5_first_1 : decode cK5_first 1 = .ok (.istore_n 2, 1) := by decide +kernel
theorem dK5_first_2 : decode cK5_first 2 = .ok (.iload_n 2, 1) := by decide +kernel
theorem dK5_first_3 : decode cK5_first 3 = .ok (.iload_n 1, 1) := by decide +kernel
theorem dK5_first_4 : decode cK5_first 4 = .ok (.if_icmp .ge 16, 3) := by decide +kernel
theorem dK5_first_7 : decode cK5_first 7 = .ok (.aload_n 0, 1) := by decide +kernel
theorem dK5_first_8 : decode cK5_first 8 = .ok (.getfield 45, 3) := by decide +kernel
theorem dK5_first_11 : decode cK5_first 11 = .ok (.iload_n 2, 1) := by decide +kernel
theorem dK5_first_12 : decode cK5_first 12 = .ok (.iload_n 2, 1) := by decide +kernel
theorem dK5_first_13 : decode cK5_first 13 = .ok (.iastore, 1) := by decide +kernel
theorem dK5_first_14 : decode cK5_first 14 = .ok (.iinc 2 1, 3) := by decide +kernel
theorem dK5_first_17 : decode cK5_first 17 = .ok (.goto (-15), 3) := by decide +kernel
theorem dK5_first_20 : decode cK5_first 20 = .ok (.return_, 1) := by decide +kernel
theorem dK5_setOf_0 : decode cK5_setOf 0 = .ok (.iconst 0, 1) := by decide +kernel
theorem dK5_setOf_1 : decode cK5_setOf 1 = .ok (.istore_n 2, 1) := by decide +kernel
theorem dK5_setOf_2 : decode cK5_setOf 2 = .ok (.iconst 0, 1) := by decide +kernel
theorem dK5_setOf_3 : decode cK5_setOf 3 = .ok (.istore_n 3, 1) := by decide +kernel
theorem dK5_setOf_4 : decode cK5_setOf 4 = .ok (.iload_n 3, 1) := by decide +kernel
theorem dK5_setOf_5 : decode cK5_setOf 5 = .ok (.iload_n 1, 1) := by decide +kernel
theorem dK5_setOf_6 : decode cK5_setOf 6 = .ok (.if_icmp .ge 20, 3) := by decide +kernel
theorem dK5_setOf_9 : decode cK5_setOf 9 = .ok (.iload_n 2, 1) := by decide +kernel
theorem dK5_setOf_10 : decode cK5_setOf 10 = .ok (.iconst 1, 1) := by decide +kernel
theorem dK5_setOf_11 : decode cK5_setOf 11 = .ok (.aload_n 0, 1) := by decide +kernel
theorem dK5_setOf_12 : decode cK5_setOf 12 = .ok (.getfield 45, 3) := by decide +kernel
theorem dK5_setOf_15 : decode cK5_setOf 15 = .ok (.iload_n 3, 1) := by decide +kernel
theorem dK5_setOf_16 : decode cK5_setOf 16 = .ok (.iaload, 1) := by decide +kernel
theorem dK5_setOf_17 : decode cK5_setOf 17 = .ok (.ishl, 1) := by decide +kernel
theorem dK5_setOf_18 : decode cK5_setOf 18 = .ok (.ior, 1) := by decide +kernel
theorem dK5_setOf_19 : decode cK5_setOf 19 = .ok (.istore_n 2, 1) := by decide +kernel
theorem dK5_setOf_20 : decode cK5_setOf 20 = .ok (.iinc 3 1, 3) := by decide +kernel
theorem dK5_setOf_23 : decode cK5_setOf 23 = .ok (.goto (-19), 3) := by decide +kernel
theorem dK5_setOf_26 : decode cK5_setOf 26 = .ok (.iload_n 2, 1) := by decide +kernel
theorem dK5_setOf_27 : decode cK5_setOf 27 = .ok (.ireturn, 1) := by decide +kernel
theorem dK5_hasOneWithin_0 : decode cK5_hasOneWithin 0 = .ok (.iconst 0, 1) := by decide +kernel
theorem dK5_hasOneWithin_1 : decode cK5_hasOneWithin 1 = .ok (.istore_n 2, 1) := by decide +kernel
theorem dK5_hasOneWithin_2 : decode cK5_hasOneWithin 2 = .ok (.iconst 0, 1) := by decide +kernel
theorem dK5_hasOneWithin_3 : decode cK5_hasOneWithin 3 = .ok (.istore_n 3, 1) := by decide +kernel
theorem dK5_hasOneWithin_4 : decode cK5_hasOneWithin 4 = .ok (.iload_n 3, 1) := by decide +kernel
theorem dK5_hasOneWithin_5 : decode cK5_hasOneWithin 5 = .ok (.aload_n 0, 1) := by decide +kernel
theorem dK5_hasOneWithin_6 : decode cK5_hasOneWithin 6 = .ok (.getfield 114, 3) := by decide +kernel
theorem dK5_hasOneWithin_9 : decode cK5_hasOneWithin 9 = .ok (.if_icmp .ge 36, 3) := by decide +kernel
theorem dK5_hasOneWithin_12 : decode cK5_hasOneWithin 12 = .ok (.iload_n 2, 1) := by decide +kernel
theorem dK5_hasOneWithin_13 : decode cK5_hasOneWithin 13 = .ok (.ifCond .ne 20, 3) := by decide +kernel
theorem dK5_hasOneWithin_16 : decode cK5_hasOneWithin 16 = .ok (.aload_n 0, 1) := by decide +kernel
theorem dK5_hasOneWithin_17 : decode cK5_hasOneWithin 17 = .ok (.getfield 42, 3) := by decide +kernel
theorem dK5_hasOneWithin_20 : decode cK5_hasOneWithin 20 = .ok (.iload_n 3, 1) := by decide +kernel
theorem dK5_hasOneWithin_21 : decode cK5_hasOneWithin 21 = .ok (.iaload, 1) := by decide +kernel
theorem dK5_hasOneWithin_22 : decode cK5_hasOneWithin 22 = .ok (.iload_n 1, 1) := by decide +kernel
theorem dK5_hasOneWithin_23 : decode cK5_hasOneWithin 23 = .ok (.iand, 1) := by decide +kernel
theorem dK5_hasOneWithin_24 : decode cK5_hasOneWithin 24 = .ok (.aload_n 0, 1) := by decide +kernel
theorem dK5_hasOneWithin_25 : decode cK5_hasOneWithin 25 = .ok (.getfield 42, 3) := by decide +kernel
theorem dK5_hasOneWithin_28 : decode cK5_hasOneWithin 28 = .ok (.iload_n 3, 1) := by decide +kernel
theorem dK5_hasOneWithin_29 : decode cK5_hasOneWithin 29 = .ok (.iaload, 1) := by decide +kernel
theorem dK5_hasOneWithin_30 : decode cK5_hasOneWithin 30 = .ok (.if_icmp .ne 7, 3) := by decide +kernel
theorem dK5_hasOneWithin_33 : decode cK5_hasOneWithin 33 = .ok (.iconst 1, 1) := by decide +kernel
theorem dK5_hasOneWithin_34 : decode cK5_hasOneWithin 34 = .ok (.goto 4, 3) := by decide +kernel
theorem dK5_hasOneWithin_37 : decode cK5_hasOneWithin 37 = .ok (.iconst 0, 1) := by decide +kernel
theorem dK5_hasOneWithin_38 : decode cK5_hasOneWithin 38 = .ok (.istore_n 2, 1) := by decide +kernel
theorem dK5_hasOneWithin_39 : decode cK5_hasOneWithin 39 = .ok (.iinc 3 1, 3) := by decide +kernel
theorem dK5_hasOneWithin_42 : decode cK5_hasOneWithin 42 = .ok (.goto (-38), 3) := by decide +kernel
theorem dK5_hasOneWithin_45 : decode cK5_hasOneWithin 45 = .ok (.iload_n 2, 1) := by decide +kernel
theorem dK5_hasOneWithin_46 : decode cK5_hasOneWithin 46 = .ok (.ireturn, 1) := by decide +kernel
theorem dK5_look_0 : decode cK5_look 0 = .ok (.aload_n 0, 1) := by decide +kernel
theorem dK5_look_1 : decode cK5_look 1 = .ok (.getfield 120, 3) := by decide +kernel
theorem dK5_look_4 : decode cK5_look 4 = .ok (.aload_n 0, 1) := by decide +kernel
theorem dK5_look_5 : decode cK5_look 5 = .ok (.getfield 38, 3) := by decide +kernel
theorem dK5_look_8 : decode cK5_look 8 = .ok (.if_icmp .ne 9, 3) := by decide +kernel
theorem dK5_look_11 : decode cK5_look 11 = .ok (.aload_n 0, 1) := by decide +kernel
theorem dK5_look_12 : decode cK5_look 12 = .ok (.iconst 0, 1) := by decide +kernel
theorem dK5_look_13 : decode cK5_look 13 = .ok (.putfield 57, 3) := by decide +kernel
theorem dK5_look_16 : decode cK5_look 16 = .ok (.return_, 1) := by decide +kernel
theorem dK5_look_17 : decode cK5_look 17 = .ok (.aload_n 0, 1) := by decide +kernel
theorem dK5_look_18 : decode cK5_look 18 = .ok (.dup, 1) := by decide +kernel
theorem dK5_look_19 : decode cK5_look 19 = .ok (.getfield 120, 3) := by decide +kernel
theorem dK5_look_22 : decode cK5_look 22 = .ok (.iconst 1, 1) := by decide +kernel
theorem dK5_look_23 : decode cK5_look 23 = .ok (.iadd, 1) := by decide +kernel
theorem dK5_look_24 : decode cK5_look 24 = .ok (.putfield 120, 3) := by decide +kernel
theorem dK5_look_27 : decode cK5_look 27 = .ok (.aload_n 0, 1) := by decide +kernel
theorem dK5_look_28 : decode cK5_look 28 = .ok (.iload_n 1, 1) := by decide +kernel
theorem dK5_look_29 : decode cK5_look 29 = .ok (.invokevirtual 88, 3) := by decide +kernel
theorem dK5_look_32 : decode cK5_look 32 = .ok (.aload_n 0, 1) := by decide +kernel
theorem dK5_look_33 : decode cK5_look 33 = .ok (.iload_n 2, 1) := by decide +kernel
theorem dK5_look_34 : decode cK5_look 34 = .ok (.iload_n 3, 1) := by decide +kernel
theorem dK5_look_35 : decode cK5_look 35 = .ok (.invokevirtual 85, 3) := by decide +kernel
theorem dK5_look_38 : decode cK5_look 38 = .ok (.ifCond .ne 41, 3) := by decide +kernel
theorem dK5_look_41 : decode cK5_look 41 = .ok (.aload_n 0, 1) := by decide +kernel
theorem dK5_look_42 : decode cK5_look 42 = .ok (.getfield 42, 3) := by decide +kernel
theorem dK5_look_45 : decode cK5_look 45 = .ok (.aload_n 0, 1) := by decide +kernel
theorem dK5_look_46 : decode cK5_look 46 = .ok (.getfield 114, 3) := by decide +kernel
theorem dK5_look_49 : decode cK5_look 49 = .ok (.iload_n 1, 1) := by decide +kernel
theorem dK5_look_50 : decode cK5_look 50 = .ok (.iastore, 1) := by decide +kernel
theorem dK5_look_51 : decode cK5_look 51 = .ok (.aload_n 0, 1) := by decide +kernel
theorem dK5_look_52 : decode cK5_look 52 = .ok (.dup, 1) := by decide +kernel
theorem dK5_look_53 : decode cK5_look 53 = .ok (.getfield 114, 3) := by decide +kernel
theorem dK5_look_56 : decode cK5_look 56 = .ok (.iconst 1, 1) := by decide +kernel
theorem dK5_look_57 : decode cK5_look 57 = .ok (.iadd, 1) := by decide +kernel
theorem dK5_look_58 : decode cK5_look 58 = .ok (.putfield 114, 3) := by decide +kernel
theorem dK5_look_61 : decode cK5_look 61 = .ok (.aload_n 0, 1) := by decide +kernel
theorem dK5_look_62 : decode cK5_look 62 = .ok (.aload_n 0, 1) := by decide +kernel
theorem dK5_look_63 : decode cK5_look 63 = .ok (.getfield 114, 3) := by decide +kernel
theorem dK5_look_66 : decode cK5_look 66 = .ok (.bipush 30, 2) := by decide +kernel
theorem dK5_look_68 : decode cK5_look 68 = .ok (.if_icmp .ge 7, 3) := by decide +kernel
theorem dK5_look_71 : decode cK5_look 71 = .ok (.iconst 1, 1) := by decide +kernel
theorem dK5_look_72 : decode cK5_look 72 = .ok (.goto 4, 3) := by decide +kernel
theorem dK5_look_75 : decode cK5_look 75 = .ok (.iconst 0, 1) := by decide +kernel
theorem dK5_look_76 : decode cK5_look 76 = .ok (.putfield 57, 3) := by decide +kernel
theorem dK5_look_79 : decode cK5_look 79 = .ok (.return_, 1) := by decide +kernel
theorem dK5_next_0 : decode cK5_next 0 = .ok (.iload_n 1, 1) := by decide +kernel
theorem dK5_next_1 : decode cK5_next 1 = .ok (.iconst 1, 1) := by decide +kernel
theorem dK5_next_2 : decode cK5_next 2 = .ok (.isub, 1) := by decide +kernel
theorem dK5_next_3 : decode cK5_next 3 = .ok (.istore_n 2, 1) := by decide +kernel
theorem dK5_next_4 : decode cK5_next 4 = .ok (.iload_n 2, 1) := by decide +kernel
theorem dK5_next_5 : decode cK5_next 5 = .ok (.ifCond .lt 26, 3) := by decide +kernel
theorem dK5_next_8 : decode cK5_next 8 = .ok (.aload_n 0, 1) := by decide +kernel
theorem dK5_next_9 : decode cK5_next 9 = .ok (.getfield 45, 3) := by decide +kernel
theorem dK5_next_12 : decode cK5_next 12 = .ok (.iload_n 2, 1) := by decide +kernel
theorem dK5_next_13 : decode cK5_next 13 = .ok (.iaload, 1) := by decide +kernel
theorem dK5_next_14 : decode cK5_next 14 = .ok (.aload_n 0, 1) := by decide +kernel
theorem dK5_next_15 : decode cK5_next 15 = .ok (.getfield 75, 3) := by decide +kernel
theorem dK5_next_18 : decode cK5_next 18 = .ok (.iload_n 1, 1) := by decide +kernel
theorem dK5_next_19 : decode cK5_next 19 = .ok (.isub, 1) := by decide +kernel
theorem dK5_next_20 : decode cK5_next 20 = .ok (.iload_n 2, 1) := by decide +kernel
theorem dK5_next_21 : decode cK5_next 21 = .ok (.iadd, 1) := by decide +kernel
theorem dK5_next_22 : decode cK5_next 22 = .ok (.if_icmp .ne 9, 3) := by decide +kernel
theorem dK5_next_25 : decode cK5_next 25 = .ok (.iinc 2 (-1), 3) := by decide +kernel
theorem dK5_next_28 : decode cK5_next 28 = .ok (.goto (-24), 3) := by decide +kernel
theorem dK5_next_31 : decode cK5_next 31 = .ok (.iload_n 2, 1) := by decide +kernel
theorem dK5_next_32 : decode cK5_next 32 = .ok (.ifCond .ge 5, 3) := by decide +kernel
theorem dK5_next_35 : decode cK5_next 35 = .ok (.iconst 0, 1) := by decide +kernel
theorem dK5_next_36 : decode cK5_next 36 = .ok (.ireturn, 1) := by decide +kernel
theorem dK5_next_37 : decode cK5_next 37 = .ok (.aload_n 0, 1) := by decide +kernel
theorem dK5_next_38 : decode cK5_next 38 = .ok (.getfield 45, 3) := by decide +kernel
theorem dK5_next_41 : decode cK5_next 41 = .ok (.iload_n 2, 1) := by decide +kernel
theorem dK5_next_42 : decode cK5_next 42 = .ok (.dup2, 1) := by decide +kernel
theorem dK5_next_43 : decode cK5_next 43 = .ok (.iaload, 1) := by decide +kernel
theorem dK5_next_44 : decode cK5_next 44 = .ok (.iconst 1, 1) := by decide +kernel
theorem dK5_next_45 : decode cK5_next 45 = .ok (.iadd, 1) := by decide +kernel
theorem dK5_next_46 : decode cK5_next 46 = .ok (.iastore, 1) := by decide +kernel
theorem dK5_next_47 : decode cK5_next 47 = .ok (.iload_n 2, 1) := by decide +kernel
theorem dK5_next_48 : decode cK5_next 48 = .ok (.iconst 1, 1) := by decide +kernel
theorem dK5_next_49 : decode cK5_next 49 = .ok (.iadd, 1) := by decide +kernel
theorem dK5_next_50 : decode cK5_next 50 = .ok (.istore_n 3, 1) := by decide +kernel
theorem dK5_next_51 : decode cK5_next 51 = .ok (.iload_n 3, 1) := by decide +kernel
theorem dK5_next_52 : decode cK5_next 52 = .ok (.iload_n 1, 1) := by decide +kernel
theorem dK5_next_53 : decode cK5_next 53 = .ok (.if_icmp .ge 25, 3) := by decide +kernel
theorem dK5_next_56 : decode cK5_next 56 = .ok (.aload_n 0, 1) := by decide +kernel
theorem dK5_next_57 : decode cK5_next 57 = .ok (.getfield 45, 3) := by decide +kernel
theorem dK5_next_60 : decode cK5_next 60 = .ok (.iload_n 3, 1) := by decide +kernel
theorem dK5_next_61 : decode cK5_next 61 = .ok (.aload_n 0, 1) := by decide +kernel
theorem dK5_next_62 : decode cK5_next 62 = .ok (.getfield 45, 3) := by decide +kernel
theorem dK5_next_65 : decode cK5_next 65 = .ok (.iload_n 3, 1) := by decide +kernel
theorem dK5_next_66 : decode cK5_next 66 = .ok (.iconst 1, 1) := by decide +kernel
theorem dK5_next_67 : decode cK5_next 67 = .ok (.isub, 1) := by decide +kernel
theorem dK5_next_68 : decode cK5_next 68 = .ok (.iaload, 1) := by decide +kernel
theorem dK5_next_69 : decode cK5_next 69 = .ok (.iconst 1, 1) := by decide +kernel
theorem dK5_next_70 : decode cK5_next 70 = .ok (.iadd, 1) := by decide +kernel
theorem dK5_next_71 : decode cK5_next 71 = .ok (.iastore, 1) := by decide +kernel
theorem dK5_next_72 : decode cK5_next 72 = .ok (.iinc 3 1, 3) := by decide +kernel
theorem dK5_next_75 : decode cK5_next 75 = .ok (.goto (-24), 3) := by decide +kernel
theorem dK5_next_78 : decode cK5_next 78 = .ok (.iconst 1, 1) := by decide +kernel
theorem dK5_next_79 : decode cK5_next 79 = .ok (.ireturn, 1) := by decide +kernel
theorem dK5_sort_0 : decode cK5_sort 0 = .ok (.iconst 1, 1) := by decide +kernel
theorem dK5_sort_1 : decode cK5_sort 1 = .ok (.istore_n 1, 1) := by decide +kernel
theorem dK5_sort_2 : decode cK5_sort 2 = .ok (.iload_n 1, 1) := by decide +kernel
theorem dK5_sort_3 : decode cK5_sort 3 = .ok (.aload_n 0, 1) := by decide +kernel
theorem dK5_sort_4 : decode cK5_sort 4 = .ok (.getfield 114, 3) := by decide +kernel
theorem dK5_sort_7 : decode cK5_sort 7 = .ok (.if_icmp .ge 101, 3) := by decide +kernel
theorem dK5_sort_10 : decode cK5_sort 10 = .ok (.aload_n 0, 1) := by decide +kernel
theorem dK5_sort_11 : decode cK5_sort 11 = .ok (.getfield 42, 3) := by decide +kernel
theorem dK5_sort_14 : decode cK5_sort 14 = .ok (.iload_n 1, 1) := by decide +kernel
theorem dK5_sort_15 : decode cK5_sort 15 = .ok (.iaload, 1) := by decide +kernel
theorem dK5_sort_16 : decode cK5_sort 16 = .ok (.istore_n 2, 1) := by decide +kernel
theorem dK5_sort_17 : decode cK5_sort 17 = .ok (.bipush 100, 2) := by decide +kernel
theorem dK5_sort_19 : decode cK5_sort 19 = .ok (.aload_n 0, 1) := by decide +kernel
theorem dK5_sort_20 : decode cK5_sort 20 = .ok (.iload_n 2, 1) := by decide +kernel
theorem dK5_sort_21 : decode cK5_sort 21 = .ok (.invokevirtual 144, 3) := by decide +kernel
theorem dK5_sort_24 : decode cK5_sort 24 = .ok (.imul, 1) := by decide +kernel
theorem dK5_sort_25 : decode cK5_sort 25 = .ok (.iload_n 2, 1) := by decide +kernel
theorem dK5_sort_26 : decode cK5_sort 26 = .ok (.invokestatic 147, 3) := by decide +kernel
theorem dK5_sort_29 : decode cK5_sort 29 = .ok (.iadd, 1) := by decide +kernel
theorem dK5_sort_30 : decode cK5_sort 30 = .ok (.istore_n 3, 1) := by decide +kernel
theorem dK5_sort_31 : decode cK5_sort 31 = .ok (.iload_n 1, 1) := by decide +kernel
theorem dK5_sort_32 : decode cK5_sort 32 = .ok (.istore 4, 2) := by decide +kernel
theorem dK5_sort_34 : decode cK5_sort 34 = .ok (.iload 4, 2) := by decide +kernel
theorem dK5_sort_36 : decode cK5_sort 36 = .ok (.ifCond .le 58, 3) := by decide +kernel
theorem dK5_sort_39 : decode cK5_sort 39 = .ok (.bipush 100, 2) := by decide +kernel
theorem dK5_sort_41 : decode cK5_sort 41 = .ok (.aload_n 0, 1) := by decide +kernel
theorem dK5_sort_42 : decode cK5_sort 42 = .ok (.aload_n 0, 1) := by decide +kernel
theorem dK5_sort_43 : decode cK5_sort 43 = .ok (.getfield 42, 3) := by decide +kernel
theorem dK5_sort_46 : decode cK5_sort 46 = .ok (.iload 4, 2) := by decide +kernel
theorem dK5_sort_48 : decode cK5_sort 48 = .ok (.iconst 1, 1) := by decide +kernel
theorem dK5_sort_49 : decode cK5_sort 49 = .ok (.isub, 1) := by decide +kernel
theorem dK5_sort_50 : decode cK5_sort 50 = .ok (.iaload, 1) := by decide +kernel
theorem dK5_sort_51 : decode cK5_sort 51 = .ok (.invokevirtual 144, 3) := by decide +kernel
theorem dK5_sort_54 : decode cK5_sort 54 = .ok (.imul, 1) := by decide +kernel
theorem dK5_sort_55 : decode cK5_sort 55 = .ok (.aload_n 0, 1) := by decide +kernel
theorem dK5_sort_56 : decode cK5_sort 56 = .ok (.getfield 42, 3) := by decide +kernel
theorem dK5_sort_59 : decode cK5_sort 59 = .ok (.iload 4, 2) := by decide +kernel
theorem dK5_sort_61 : decode cK5_sort 61 = .ok (.iconst 1, 1) := by decide +kernel
theorem dK5_sort_62 : decode cK5_sort 62 = .ok (.isub, 1) := by decide +kernel
theorem dK5_sort_63 : decode cK5_sort 63 = .ok (.iaload, 1) := by decide +kernel
theorem dK5_sort_64 : decode cK5_sort 64 = .ok (.invokestatic 147, 3) := by decide +kernel
theorem dK5_sort_67 : decode cK5_sort 67 = .ok (.iadd, 1) := by decide +kernel
theorem dK5_sort_68 : decode cK5_sort 68 = .ok (.iload_n 3, 1) := by decide +kernel
theorem dK5_sort_69 : decode cK5_sort 69 = .ok (.if_icmp .le 25, 3) := by decide +kernel
theorem dK5_sort_72 : decode cK5_sort 72 = .ok (.aload_n 0, 1) := by decide +kernel
theorem dK5_sort_73 : decode cK5_sort 73 = .ok (.getfield 42, 3) := by decide +kernel
theorem dK5_sort_76 : decode cK5_sort 76 = .ok (.iload 4, 2) := by decide +kernel
theorem dK5_sort_78 : decode cK5_sort 78 = .ok (.aload_n 0, 1) := by decide +kernel
theorem dK5_sort_79 : decode cK5_sort 79 = .ok (.getfield 42, 3) := by decide +kernel
theorem dK5_sort_82 : decode cK5_sort 82 = .ok (.iload 4, 2) := by decide +kernel
theorem dK5_sort_84 : decode cK5_sort 84 = .ok (.iconst 1, 1) := by decide +kernel
theorem dK5_sort_85 : decode cK5_sort 85 = .ok (.isub, 1) := by decide +kernel
theorem dK5_sort_86 : decode cK5_sort 86 = .ok (.iaload, 1) := by decide +kernel
theorem dK5_sort_87 : decode cK5_sort 87 = .ok (.iastore, 1) := by decide +kernel
theorem dK5_sort_88 : decode cK5_sort 88 = .ok (.iinc 4 (-1), 3) := by decide +kernel
theorem dK5_sort_91 : decode cK5_sort 91 = .ok (.goto (-57), 3) := by decide +kernel
theorem dK5_sort_94 : decode cK5_sort 94 = .ok (.aload_n 0, 1) := by decide +kernel
theorem dK5_sort_95 : decode cK5_sort 95 = .ok (.getfield 42, 3) := by decide +kernel
theorem dK5_sort_98 : decode cK5_sort 98 = .ok (.iload 4, 2) := by decide +kernel
theorem dK5_sort_100 : decode cK5_sort 100 = .ok (.iload_n 2, 1) := by decide +kernel
theorem dK5_sort_101 : decode cK5_sort 101 = .ok (.iastore, 1) := by decide +kernel
theorem dK5_sort_102 : decode cK5_sort 102 = .ok (.iinc 1 1, 3) := by decide +kernel
theorem dK5_sort_105 : decode cK5_sort 105 = .ok (.goto (-103), 3) := by decide +kernel
theorem dK5_sort_108 : decode cK5_sort 108 = .ok (.return_, 1) := by decide +kernel
theorem dK5_weightOf_0 : decode cK5_weightOf 0 = .ok (.iconst 0, 1) := by decide +kernel
theorem dK5_weightOf_1 : decode cK5_weightOf 1 = .ok (.istore_n 2, 1) := by decide +kernel
theorem dK5_weightOf_2 : decode cK5_weightOf 2 = .ok (.iconst 0, 1) := by decide +kernel
theorem dK5_weightOf_3 : decode cK5_weightOf 3 = .ok (.istore_n 3, 1) := by decide +kernel
theorem dK5_weightOf_4 : decode cK5_weightOf 4 = .ok (.iload_n 3, 1) := by decide +kernel
theorem dK5_weightOf_5 : decode cK5_weightOf 5 = .ok (.bipush 12, 2) := by decide +kernel
theorem dK5_weightOf_7 : decode cK5_weightOf 7 = .ok (.if_icmp .ge 31, 3) := by decide +kernel
theorem dK5_weightOf_10 : decode cK5_weightOf 10 = .ok (.iload_n 2, 1) := by decide +kernel
theorem dK5_weightOf_11 : decode cK5_weightOf 11 = .ok (.iload_n 1, 1) := by decide +kernel
theorem dK5_weightOf_12 : decode cK5_weightOf 12 = .ok (.iload_n 3, 1) := by decide +kernel
theorem dK5_weightOf_13 : decode cK5_weightOf 13 = .ok (.ishr, 1) := by decide +kernel
theorem dK5_weightOf_14 : decode cK5_weightOf 14 = .ok (.iconst 1, 1) := by decide +kernel
theorem dK5_weightOf_15 : decode cK5_weightOf 15 = .ok (.iand, 1) := by decide +kernel
theorem dK5_weightOf_16 : decode cK5_weightOf 16 = .ok (.iconst 1, 1) := by decide +kernel
theorem dK5_weightOf_17 : decode cK5_weightOf 17 = .ok (.if_icmp .ne 12, 3) := by decide +kernel
theorem dK5_weightOf_20 : decode cK5_weightOf 20 = .ok (.aload_n 0, 1) := by decide +kernel
theorem dK5_weightOf_21 : decode cK5_weightOf 21 = .ok (.getfield 35, 3) := by decide +kernel
theorem dK5_weightOf_24 : decode cK5_weightOf 24 = .ok (.iload_n 3, 1) := by decide +kernel
theorem dK5_weightOf_25 : decode cK5_weightOf 25 = .ok (.iaload, 1) := by decide +kernel
theorem dK5_weightOf_26 : decode cK5_weightOf 26 = .ok (.goto 4, 3) := by decide +kernel
theorem dK5_weightOf_29 : decode cK5_weightOf 29 = .ok (.iconst 0, 1) := by decide +kernel
theorem dK5_weightOf_30 : decode cK5_weightOf 30 = .ok (.iadd, 1) := by decide +kernel
theorem dK5_weightOf_31 : decode cK5_weightOf 31 = .ok (.istore_n 2, 1) := by decide +kernel
theorem dK5_weightOf_32 : decode cK5_weightOf 32 = .ok (.iinc 3 1, 3) := by decide +kernel
theorem dK5_weightOf_35 : decode cK5_weightOf 35 = .ok (.goto (-31), 3) := by decide +kernel
theorem dK5_weightOf_38 : decode cK5_weightOf 38 = .ok (.iload_n 2, 1) := by decide +kernel
theorem dK5_weightOf_39 : decode cK5_weightOf 39 = .ok (.ireturn, 1) := by decide +kernel
theorem dK5_sizeOf_0 : decode cK5_sizeOf 0 = .ok (.iconst 0, 1) := by decide +kernel
theorem dK5_sizeOf_1 : decode cK5_sizeOf 1 = .ok (.istore_n 1, 1) := by decide +kernel
theorem dK5_sizeOf_2 : decode cK5_sizeOf 2 = .ok (.iconst 0, 1) := by decide +kernel
theorem dK5_sizeOf_3 : decode cK5_sizeOf 3 = .ok (.istore_n 2, 1) := by decide +kernel
theorem dK5_sizeOf_4 : decode cK5_sizeOf 4 = .ok (.iload_n 2, 1) := by decide +kernel
theorem dK5_sizeOf_5 : decode cK5_sizeOf 5 = .ok (.bipush 12, 2) := by decide +kernel
theorem dK5_sizeOf_7 : decode cK5_sizeOf 7 = .ok (.if_icmp .ge 17, 3) := by decide +kernel
theorem dK5_sizeOf_10 : decode cK5_sizeOf 10 = .ok (.iload_n 1, 1) := by decide +kernel
theorem dK5_sizeOf_11 : decode cK5_sizeOf 11 = .ok (.iload_n 0, 1) := by decide +kernel
theorem dK5_sizeOf_12 : decode cK5_sizeOf 12 = .ok (.iload_n 2, 1) := by decide +kernel
theorem dK5_sizeOf_13 : decode cK5_sizeOf 13 = .ok (.ishr, 1) := by decide +kernel
theorem dK5_sizeOf_14 : decode cK5_sizeOf 14 = .ok (.iconst 1, 1) := by decide +kernel
theorem dK5_sizeOf_15 : decode cK5_sizeOf 15 = .ok (.iand, 1) := by decide +kernel
theorem dK5_sizeOf_16 : decode cK5_sizeOf 16 = .ok (.iadd, 1) := by decide +kernel
theorem dK5_sizeOf_17 : decode cK5_sizeOf 17 = .ok (.istore_n 1, 1) := by decide +kernel
theorem dK5_sizeOf_18 : decode cK5_sizeOf 18 = .ok (.iinc 2 1, 3) := by decide +kernel
theorem dK5_sizeOf_21 : decode cK5_sizeOf 21 = .ok (.goto (-17), 3) := by decide +kernel
theorem dK5_sizeOf_24 : decode cK5_sizeOf 24 = .ok (.iload_n 1, 1) := by decide +kernel
theorem dK5_sizeOf_25 : decode cK5_sizeOf 25 = .ok (.ireturn, 1) := by decide +kernel
theorem dK5_cover_0 : decode cK5_cover 0 = .ok (.iload_n 1, 1) := by decide +kernel
theorem dK5_cover_1 : decode cK5_cover 1 = .ok (.iconst 0, 1) := by decide +kernel
theorem dK5_cover_2 : decode cK5_cover 2 = .ok (.bipush 12, 2) := by decide +kernel
theorem dK5_cover_4 : decode cK5_cover 4 = .ok (.invokestatic 61, 3) := by decide +kernel
theorem dK5_cover_7 : decode cK5_cover 7 = .ok (.ifCond .ne 5, 3) := by decide +kernel
theorem dK5_cover_10 : decode cK5_cover 10 = .ok (.iconst (-1), 1) := by decide +kernel
theorem dK5_cover_11 : decode cK5_cover 11 = .ok (.ireturn, 1) := by decide +kernel
theorem dK5_cover_12 : decode cK5_cover 12 = .ok (.aload_n 0, 1) := by decide +kernel
theorem dK5_cover_13 : decode cK5_cover 13 = .ok (.iconst 0, 1) := by decide +kernel
theorem dK5_cover_14 : decode cK5_cover 14 = .ok (.putfield 120, 3) := by decide +kernel
theorem dK5_cover_17 : decode cK5_cover 17 = .ok (.aload_n 0, 1) := by decide +kernel
theorem dK5_cover_18 : decode cK5_cover 18 = .ok (.iconst 1, 1) := by decide +kernel
theorem dK5_cover_19 : decode cK5_cover 19 = .ok (.putfield 57, 3) := by decide +kernel
theorem dK5_cover_22 : decode cK5_cover 22 = .ok (.aload_n 0, 1) := by decide +kernel
theorem dK5_cover_23 : decode cK5_cover 23 = .ok (.iconst 0, 1) := by decide +kernel
theorem dK5_cover_24 : decode cK5_cover 24 = .ok (.putfield 117, 3) := by decide +kernel
theorem dK5_cover_27 : decode cK5_cover 27 = .ok (.iconst 0, 1) := by decide +kernel
theorem dK5_cover_28 : decode cK5_cover 28 = .ok (.istore_n 2, 1) := by decide +kernel
theorem dK5_cover_29 : decode cK5_cover 29 = .ok (.iload_n 2, 1) := by decide +kernel
theorem dK5_cover_30 : decode cK5_cover 30 = .ok (.iload_n 1, 1) := by decide +kernel
theorem dK5_cover_31 : decode cK5_cover 31 = .ok (.if_icmp .gt 72, 3) := by decide +kernel
theorem dK5_cover_34 : decode cK5_cover 34 = .ok (.iload_n 2, 1) := by decide +kernel
theorem dK5_cover_35 : decode cK5_cover 35 = .ok (.aload_n 0, 1) := by decide +kernel
theorem dK5_cover_36 : decode cK5_cover 36 = .ok (.getfield 75, 3) := by decide +kernel
theorem dK5_cover_39 : decode cK5_cover 39 = .ok (.if_icmp .gt 64, 3) := by decide +kernel
theorem dK5_cover_42 : decode cK5_cover 42 = .ok (.aload_n 0, 1) := by decide +kernel
theorem dK5_cover_43 : decode cK5_cover 43 = .ok (.getfield 57, 3) := by decide +kernel
theorem dK5_cover_46 : decode cK5_cover 46 = .ok (.ifCond .eq 57, 3) := by decide +kernel
theorem dK5_cover_49 : decode cK5_cover 49 = .ok (.aload_n 0, 1) := by decide +kernel
theorem dK5_cover_50 : decode cK5_cover 50 = .ok (.iload_n 2, 1) := by decide +kernel
theorem dK5_cover_51 : decode cK5_cover 51 = .ok (.invokevirtual 123, 3) := by decide +kernel
theorem dK5_cover_54 : decode cK5_cover 54 = .ok (.iconst 1, 1) := by decide +kernel
theorem dK5_cover_55 : decode cK5_cover 55 = .ok (.istore_n 3, 1) := by decide +kernel
theorem dK5_cover_56 : decode cK5_cover 56 = .ok (.iload_n 3, 1) := by decide +kernel
theorem dK5_cover_57 : decode cK5_cover 57 = .ok (.ifCond .eq 40, 3) := by decide +kernel
theorem dK5_cover_60 : decode cK5_cover 60 = .ok (.aload_n 0, 1) := by decide +kernel
theorem dK5_cover_61 : decode cK5_cover 61 = .ok (.getfield 57, 3) := by decide +kernel
theorem dK5_cover_64 : decode cK5_cover 64 = .ok (.ifCond .eq 33, 3) := by decide +kernel
theorem dK5_cover_67 : decode cK5_cover 67 = .ok (.aload_n 0, 1) := by decide +kernel
theorem dK5_cover_68 : decode cK5_cover 68 = .ok (.aload_n 0, 1) := by decide +kernel
theorem dK5_cover_69 : decode cK5_cover 69 = .ok (.iload_n 2, 1) := by decide +kernel
theorem dK5_cover_70 : decode cK5_cover 70 = .ok (.invokevirtual 126, 3) := by decide +kernel
theorem dK5_cover_73 : decode cK5_cover 73 = .ok (.invokevirtual 150, 3) := by decide +kernel
theorem dK5_cover_76 : decode cK5_cover 76 = .ok (.iload_n 2, 1) := by decide +kernel
theorem dK5_cover_77 : decode cK5_cover 77 = .ok (.ifCond .le 15, 3) := by decide +kernel
theorem dK5_cover_80 : decode cK5_cover 80 = .ok (.aload_n 0, 1) := by decide +kernel
theorem dK5_cover_81 : decode cK5_cover 81 = .ok (.iload_n 2, 1) := by decide +kernel
theorem dK5_cover_82 : decode cK5_cover 82 = .ok (.invokevirtual 138, 3) := by decide +kernel
theorem dK5_cover_85 : decode cK5_cover 85 = .ok (.ifCond .eq 7, 3) := by decide +kernel
theorem dK5_cover_88 : decode cK5_cover 88 = .ok (.iconst 1, 1) := by decide +kernel
theorem dK5_cover_89 : decode cK5_cover 89 = .ok (.goto 4, 3) := by decide +kernel
theorem dK5_cover_92 : decode cK5_cover 92 = .ok (.iconst 0, 1) := by decide +kernel
theorem dK5_cover_93 : decode cK5_cover 93 = .ok (.istore_n 3, 1) := by decide +kernel
theorem dK5_cover_94 : decode cK5_cover 94 = .ok (.goto (-38), 3) := by decide +kernel
theorem dK5_cover_97 : decode cK5_cover 97 = .ok (.iinc 2 1, 3) := by decide +kernel
theorem dK5_cover_100 : decode cK5_cover 100 = .ok (.goto (-71), 3) := by decide +kernel
theorem dK5_cover_103 : decode cK5_cover 103 = .ok (.aload_n 0, 1) := by decide +kernel
theorem dK5_cover_104 : decode cK5_cover 104 = .ok (.getfield 117, 3) := by decide +kernel
theorem dK5_cover_107 : decode cK5_cover 107 = .ok (.ifCond .eq 14, 3) := by decide +kernel
theorem dK5_cover_110 : decode cK5_cover 110 = .ok (.aload_n 0, 1) := by decide +kernel
theorem dK5_cover_111 : decode cK5_cover 111 = .ok (.aload_n 0, 1) := by decide +kernel
theorem dK5_cover_112 : decode cK5_cover 112 = .ok (.getfield 153, 3) := by decide +kernel
theorem dK5_cover_115 : decode cK5_cover 115 = .ok (.invokevirtual 144, 3) := by decide +kernel
theorem dK5_cover_118 : decode cK5_cover 118 = .ok (.goto 5, 3) := by decide +kernel
theorem dK5_cover_121 : decode cK5_cover 121 = .ok (.bipush (-2), 2) := by decide +kernel
theorem dK5_cover_123 : decode cK5_cover 123 = .ok (.ireturn, 1) := by decide +kernel
theorem dK5_weigh_0 : decode cK5_weigh 0 = .ok (.aload_n 0, 1) := by decide +kernel
theorem dK5_weigh_1 : decode cK5_weigh 1 = .ok (.getfield 120, 3) := by decide +kernel
theorem dK5_weigh_4 : decode cK5_weigh 4 = .ok (.aload_n 0, 1) := by decide +kernel
theorem dK5_weigh_5 : decode cK5_weigh 5 = .ok (.getfield 38, 3) := by decide +kernel
theorem dK5_weigh_8 : decode cK5_weigh 8 = .ok (.if_icmp .ne 9, 3) := by decide +kernel
theorem dK5_weigh_11 : decode cK5_weigh 11 = .ok (.aload_n 0, 1) := by decide +kernel
theorem dK5_weigh_12 : decode cK5_weigh 12 = .ok (.iconst 0, 1) := by decide +kernel
theorem dK5_weigh_13 : decode cK5_weigh 13 = .ok (.putfield 57, 3) := by decide +kernel
theorem dK5_weigh_16 : decode cK5_weigh 16 = .ok (.return_, 1) := by decide +kernel
theorem dK5_weigh_17 : decode cK5_weigh 17 = .ok (.aload_n 0, 1) := by decide +kernel
theorem dK5_weigh_18 : decode cK5_weigh 18 = .ok (.dup, 1) := by decide +kernel
end
section
theorem dK5_weigh_19 : decode cK5_weigh 19 = .ok (.getfield 120, 3) := by decide +kernel
theorem dK5_weigh_22 : decode cK5_weigh 22 = .ok (.iconst 1, 1) := by decide +kernel
theorem dK5_weigh_23 : decode cK5_weigh 23 = .ok (.iadd, 1) := by decide +kernel
theorem dK5_weigh_24 : decode cK5_weigh 24 = .ok (.putfield 120, 3) := by decide +kernel
theorem dK5_weigh_27 : decode cK5_weigh 27 = .ok (.aload_n 0, 1) := by decide +kernel
theorem dK5_weigh_28 : decode cK5_weigh 28 = .ok (.iload_n 1, 1) := by decide +kernel
theorem dK5_weigh_29 : decode cK5_weigh 29 = .ok (.invokevirtual 88, 3) := by decide +kernel
theorem dK5_weigh_32 : decode cK5_weigh 32 = .ok (.aload_n 0, 1) := by decide +kernel
theorem dK5_weigh_33 : decode cK5_weigh 33 = .ok (.invokevirtual 92, 3) := by decide +kernel
theorem dK5_weigh_36 : decode cK5_weigh 36 = .ok (.ifCond .ne 57, 3) := by decide +kernel
theorem dK5_weigh_39 : decode cK5_weigh 39 = .ok (.bipush 100, 2) := by decide +kernel
theorem dK5_weigh_41 : decode cK5_weigh 41 = .ok (.aload_n 0, 1) := by decide +kernel
theorem dK5_weigh_42 : decode cK5_weigh 42 = .ok (.iload_n 1, 1) := by decide +kernel
theorem dK5_weigh_43 : decode cK5_weigh 43 = .ok (.invokevirtual 144, 3) := by decide +kernel
theorem dK5_weigh_46 : decode cK5_weigh 46 = .ok (.imul, 1) := by decide +kernel
theorem dK5_weigh_47 : decode cK5_weigh 47 = .ok (.iload_n 1, 1) := by decide +kernel
theorem dK5_weigh_48 : decode cK5_weigh 48 = .ok (.invokestatic 147, 3) := by decide +kernel
theorem dK5_weigh_51 : decode cK5_weigh 51 = .ok (.iadd, 1) := by decide +kernel
theorem dK5_weigh_52 : decode cK5_weigh 52 = .ok (.istore_n 2, 1) := by decide +kernel
theorem dK5_weigh_53 : decode cK5_weigh 53 = .ok (.aload_n 0, 1) := by decide +kernel
theorem dK5_weigh_54 : decode cK5_weigh 54 = .ok (.getfield 117, 3) := by decide +kernel
theorem dK5_weigh_57 : decode cK5_weigh 57 = .ok (.ifCond .eq 26, 3) := by decide +kernel
theorem dK5_weigh_60 : decode cK5_weigh 60 = .ok (.iload_n 2, 1) := by decide +kernel
theorem dK5_weigh_61 : decode cK5_weigh 61 = .ok (.bipush 100, 2) := by decide +kernel
theorem dK5_weigh_63 : decode cK5_weigh 63 = .ok (.aload_n 0, 1) := by decide +kernel
theorem dK5_weigh_64 : decode cK5_weigh 64 = .ok (.aload_n 0, 1) := by decide +kernel
theorem dK5_weigh_65 : decode cK5_weigh 65 = .ok (.getfield 153, 3) := by decide +kernel
theorem dK5_weigh_68 : decode cK5_weigh 68 = .ok (.invokevirtual 144, 3) := by decide +kernel
theorem dK5_weigh_71 : decode cK5_weigh 71 = .ok (.imul, 1) := by decide +kernel
theorem dK5_weigh_72 : decode cK5_weigh 72 = .ok (.aload_n 0, 1) := by decide +kernel
theorem dK5_weigh_73 : decode cK5_weigh 73 = .ok (.getfield 153, 3) := by decide +kernel
theorem dK5_weigh_76 : decode cK5_weigh 76 = .ok (.invokestatic 147, 3) := by decide +kernel
theorem dK5_weigh_79 : decode cK5_weigh 79 = .ok (.iadd, 1) := by decide +kernel
theorem dK5_weigh_80 : decode cK5_weigh 80 = .ok (.if_icmp .ge 13, 3) := by decide +kernel
theorem dK5_weigh_83 : decode cK5_weigh 83 = .ok (.aload_n 0, 1) := by decide +kernel
theorem dK5_weigh_84 : decode cK5_weigh 84 = .ok (.iload_n 1, 1) := by decide +kernel
theorem dK5_weigh_85 : decode cK5_weigh 85 = .ok (.putfield 153, 3) := by decide +kernel
theorem dK5_weigh_88 : decode cK5_weigh 88 = .ok (.aload_n 0, 1) := by decide +kernel
theorem dK5_weigh_89 : decode cK5_weigh 89 = .ok (.iconst 1, 1) := by decide +kernel
theorem dK5_weigh_90 : decode cK5_weigh 90 = .ok (.putfield 117, 3) := by decide +kernel
theorem dK5_weigh_93 : decode cK5_weigh 93 = .ok (.return_, 1) := by decide +kernel
theorem dK5_settled_0 : decode cK5_settled 0 = .ok (.aload_n 0, 1) := by decide +kernel
theorem dK5_settled_1 : decode cK5_settled 1 = .ok (.getfield 57, 3) := by decide +kernel
theorem dK5_settled_4 : decode cK5_settled 4 = .ok (.ireturn, 1) := by decide +kernel
theorem dK5_tried_0 : decode cK5_tried 0 = .ok (.aload_n 0, 1) := by decide +kernel
theorem dK5_tried_1 : decode cK5_tried 1 = .ok (.getfield 120, 3) := by decide +kernel
theorem dK5_tried_4 : decode cK5_tried 4 = .ok (.ireturn, 1) := by decide +kernel
theorem dK5_set_0 : decode cK5_set 0 = .ok (.aload_n 0, 1) := by decide +kernel
theorem dK5_set_1 : decode cK5_set 1 = .ok (.iload_n 1, 1) := by decide +kernel
theorem dK5_set_2 : decode cK5_set 2 = .ok (.invokevirtual 156, 3) := by decide +kernel
theorem dK5_set_5 : decode cK5_set 5 = .ok (.ifCond .eq 16, 3) := by decide +kernel
theorem dK5_set_8 : decode cK5_set 8 = .ok (.aload_n 0, 1) := by decide +kernel
theorem dK5_set_9 : decode cK5_set 9 = .ok (.getfield 42, 3) := by decide +kernel
theorem dK5_set_12 : decode cK5_set 12 = .ok (.iload_n 1, 1) := by decide +kernel
theorem dK5_set_13 : decode cK5_set 13 = .ok (.iaload, 1) := by decide +kernel
theorem dK5_set_14 : decode cK5_set 14 = .ok (.iload_n 2, 1) := by decide +kernel
theorem dK5_set_15 : decode cK5_set 15 = .ok (.invokestatic 159, 3) := by decide +kernel
theorem dK5_set_18 : decode cK5_set 18 = .ok (.goto 5, 3) := by decide +kernel
theorem dK5_set_21 : decode cK5_set 21 = .ok (.bipush (-2), 2) := by decide +kernel
theorem dK5_set_23 : decode cK5_set 23 = .ok (.ireturn, 1) := by decide +kernel
theorem dK5_isFound_0 : decode cK5_isFound 0 = .ok (.iload_n 1, 1) := by decide +kernel
theorem dK5_isFound_1 : decode cK5_isFound 1 = .ok (.iconst 0, 1) := by decide +kernel
theorem dK5_isFound_2 : decode cK5_isFound 2 = .ok (.aload_n 0, 1) := by decide +kernel
theorem dK5_isFound_3 : decode cK5_isFound 3 = .ok (.getfield 114, 3) := by decide +kernel
theorem dK5_isFound_6 : decode cK5_isFound 6 = .ok (.iconst 1, 1) := by decide +kernel
theorem dK5_isFound_7 : decode cK5_isFound 7 = .ok (.isub, 1) := by decide +kernel
theorem dK5_isFound_8 : decode cK5_isFound 8 = .ok (.invokestatic 61, 3) := by decide +kernel
theorem dK5_isFound_11 : decode cK5_isFound 11 = .ok (.ireturn, 1) := by decide +kernel
theorem dK5_member_0 : decode cK5_member 0 = .ok (.iload_n 1, 1) := by decide +kernel
theorem dK5_member_1 : decode cK5_member 1 = .ok (.istore_n 2, 1) := by decide +kernel
theorem dK5_member_2 : decode cK5_member 2 = .ok (.iconst 0, 1) := by decide +kernel
theorem dK5_member_3 : decode cK5_member 3 = .ok (.istore_n 3, 1) := by decide +kernel
theorem dK5_member_4 : decode cK5_member 4 = .ok (.iload_n 3, 1) := by decide +kernel
theorem dK5_member_5 : decode cK5_member 5 = .ok (.bipush 12, 2) := by decide +kernel
theorem dK5_member_7 : decode cK5_member 7 = .ok (.if_icmp .ge 31, 3) := by decide +kernel
theorem dK5_member_10 : decode cK5_member 10 = .ok (.iload_n 1, 1) := by decide +kernel
theorem dK5_member_11 : decode cK5_member 11 = .ok (.ifCond .lt 27, 3) := by decide +kernel
theorem dK5_member_14 : decode cK5_member 14 = .ok (.iload_n 0, 1) := by decide +kernel
theorem dK5_member_15 : decode cK5_member 15 = .ok (.iload_n 3, 1) := by decide +kernel
theorem dK5_member_16 : decode cK5_member 16 = .ok (.ishr, 1) := by decide +kernel
theorem dK5_member_17 : decode cK5_member 17 = .ok (.iconst 1, 1) := by decide +kernel
theorem dK5_member_18 : decode cK5_member 18 = .ok (.iand, 1) := by decide +kernel
theorem dK5_member_19 : decode cK5_member 19 = .ok (.iconst 1, 1) := by decide +kernel
theorem dK5_member_20 : decode cK5_member 20 = .ok (.if_icmp .ne 12, 3) := by decide +kernel
theorem dK5_member_23 : decode cK5_member 23 = .ok (.iload_n 2, 1) := by decide +kernel
theorem dK5_member_24 : decode cK5_member 24 = .ok (.ifCond .ne 5, 3) := by decide +kernel
theorem dK5_member_27 : decode cK5_member 27 = .ok (.iload_n 3, 1) := by decide +kernel
theorem dK5_member_28 : decode cK5_member 28 = .ok (.ireturn, 1) := by decide +kernel
theorem dK5_member_29 : decode cK5_member 29 = .ok (.iinc 2 (-1), 3) := by decide +kernel
theorem dK5_member_32 : decode cK5_member 32 = .ok (.iinc 3 1, 3) := by decide +kernel
theorem dK5_member_35 : decode cK5_member 35 = .ok (.goto (-31), 3) := by decide +kernel
theorem dK5_member_38 : decode cK5_member 38 = .ok (.bipush (-2), 2) := by decide +kernel
theorem dK5_member_40 : decode cK5_member 40 = .ok (.ireturn, 1) := by decide +kernel
theorem dK5_weight_0 : decode cK5_weight 0 = .ok (.aload_n 0, 1) := by decide +kernel
theorem dK5_weight_1 : decode cK5_weight 1 = .ok (.iload_n 1, 1) := by decide +kernel
theorem dK5_weight_2 : decode cK5_weight 2 = .ok (.invokevirtual 156, 3) := by decide +kernel
theorem dK5_weight_5 : decode cK5_weight 5 = .ok (.ifCond .eq 16, 3) := by decide +kernel
theorem dK5_weight_8 : decode cK5_weight 8 = .ok (.aload_n 0, 1) := by decide +kernel
theorem dK5_weight_9 : decode cK5_weight 9 = .ok (.aload_n 0, 1) := by decide +kernel
theorem dK5_weight_10 : decode cK5_weight 10 = .ok (.getfield 42, 3) := by decide +kernel
theorem dK5_weight_13 : decode cK5_weight 13 = .ok (.iload_n 1, 1) := by decide +kernel
theorem dK5_weight_14 : decode cK5_weight 14 = .ok (.iaload, 1) := by decide +kernel
theorem dK5_weight_15 : decode cK5_weight 15 = .ok (.invokevirtual 144, 3) := by decide +kernel
theorem dK5_weight_18 : decode cK5_weight 18 = .ok (.goto 5, 3) := by decide +kernel
theorem dK5_weight_21 : decode cK5_weight 21 = .ok (.bipush (-2), 2) := by decide +kernel
theorem dK5_weight_23 : decode cK5_weight 23 = .ok (.ireturn, 1) := by decide +kernel
theorem dK5_breaks_0 : decode cK5_breaks 0 = .ok (.aload_n 0, 1) := by decide +kernel
theorem dK5_breaks_1 : decode cK5_breaks 1 = .ok (.iload_n 1, 1) := by decide +kernel
theorem dK5_breaks_2 : decode cK5_breaks 2 = .ok (.invokevirtual 156, 3) := by decide +kernel
theorem dK5_breaks_5 : decode cK5_breaks 5 = .ok (.ifCond .ne 6, 3) := by decide +kernel
theorem dK5_breaks_8 : decode cK5_breaks 8 = .ok (.bipush (-2), 2) := by decide +kernel
theorem dK5_breaks_10 : decode cK5_breaks 10 = .ok (.ireturn, 1) := by decide +kernel
theorem dK5_breaks_11 : decode cK5_breaks 11 = .ok (.iload_n 2, 1) := by decide +kernel
theorem dK5_breaks_12 : decode cK5_breaks 12 = .ok (.istore_n 3, 1) := by decide +kernel
theorem dK5_breaks_13 : decode cK5_breaks 13 = .ok (.iconst 0, 1) := by decide +kernel
theorem dK5_breaks_14 : decode cK5_breaks 14 = .ok (.istore 4, 2) := by decide +kernel
theorem dK5_breaks_16 : decode cK5_breaks 16 = .ok (.iload 4, 2) := by decide +kernel
theorem dK5_breaks_18 : decode cK5_breaks 18 = .ok (.bipush 12, 2) := by decide +kernel
theorem dK5_breaks_20 : decode cK5_breaks 20 = .ok (.aload_n 0, 1) := by decide +kernel
theorem dK5_breaks_21 : decode cK5_breaks 21 = .ok (.getfield 72, 3) := by decide +kernel
theorem dK5_breaks_24 : decode cK5_breaks 24 = .ok (.imul, 1) := by decide +kernel
theorem dK5_breaks_25 : decode cK5_breaks 25 = .ok (.if_icmp .ge 98, 3) := by decide +kernel
theorem dK5_breaks_28 : decode cK5_breaks 28 = .ok (.iload_n 2, 1) := by decide +kernel
theorem dK5_breaks_29 : decode cK5_breaks 29 = .ok (.ifCond .lt 94, 3) := by decide +kernel
theorem dK5_breaks_32 : decode cK5_breaks 32 = .ok (.aload_n 0, 1) := by decide +kernel
theorem dK5_breaks_33 : decode cK5_breaks 33 = .ok (.iconst 0, 1) := by decide +kernel
theorem dK5_breaks_34 : decode cK5_breaks 34 = .ok (.invokevirtual 88, 3) := by decide +kernel
theorem dK5_breaks_37 : decode cK5_breaks 37 = .ok (.aload_n 0, 1) := by decide +kernel
theorem dK5_breaks_38 : decode cK5_breaks 38 = .ok (.iload 4, 2) := by decide +kernel
theorem dK5_breaks_40 : decode cK5_breaks 40 = .ok (.bipush 12, 2) := by decide +kernel
theorem dK5_breaks_42 : decode cK5_breaks 42 = .ok (.idiv, 1) := by decide +kernel
theorem dK5_breaks_43 : decode cK5_breaks 43 = .ok (.iload 4, 2) := by decide +kernel
theorem dK5_breaks_45 : decode cK5_breaks 45 = .ok (.bipush 12, 2) := by decide +kernel
theorem dK5_breaks_47 : decode cK5_breaks 47 = .ok (.irem, 1) := by decide +kernel
theorem dK5_breaks_48 : decode cK5_breaks 48 = .ok (.invokevirtual 85, 3) := by decide +kernel
theorem dK5_breaks_51 : decode cK5_breaks 51 = .ok (.istore 5, 2) := by decide +kernel
theorem dK5_breaks_53 : decode cK5_breaks 53 = .ok (.aload_n 0, 1) := by decide +kernel
theorem dK5_breaks_54 : decode cK5_breaks 54 = .ok (.aload_n 0, 1) := by decide +kernel
theorem dK5_breaks_55 : decode cK5_breaks 55 = .ok (.getfield 42, 3) := by decide +kernel
theorem dK5_breaks_58 : decode cK5_breaks 58 = .ok (.iload_n 1, 1) := by decide +kernel
theorem dK5_breaks_59 : decode cK5_breaks 59 = .ok (.iaload, 1) := by decide +kernel
theorem dK5_breaks_60 : decode cK5_breaks 60 = .ok (.invokevirtual 88, 3) := by decide +kernel
theorem dK5_breaks_63 : decode cK5_breaks 63 = .ok (.iload 5, 2) := by decide +kernel
theorem dK5_breaks_65 : decode cK5_breaks 65 = .ok (.ifCond .ne 24, 3) := by decide +kernel
theorem dK5_breaks_68 : decode cK5_breaks 68 = .ok (.aload_n 0, 1) := by decide +kernel
theorem dK5_breaks_69 : decode cK5_breaks 69 = .ok (.iload 4, 2) := by decide +kernel
theorem dK5_breaks_71 : decode cK5_breaks 71 = .ok (.bipush 12, 2) := by decide +kernel
theorem dK5_breaks_73 : decode cK5_breaks 73 = .ok (.idiv, 1) := by decide +kernel
theorem dK5_breaks_74 : decode cK5_breaks 74 = .ok (.iload 4, 2) := by decide +kernel
theorem dK5_breaks_76 : decode cK5_breaks 76 = .ok (.bipush 12, 2) := by decide +kernel
theorem dK5_breaks_78 : decode cK5_breaks 78 = .ok (.irem, 1) := by decide +kernel
theorem dK5_breaks_79 : decode cK5_breaks 79 = .ok (.invokevirtual 85, 3) := by decide +kernel
theorem dK5_breaks_82 : decode cK5_breaks 82 = .ok (.ifCond .eq 7, 3) := by decide +kernel
theorem dK5_breaks_85 : decode cK5_breaks 85 = .ok (.iconst 1, 1) := by decide +kernel
theorem dK5_breaks_86 : decode cK5_breaks 86 = .ok (.goto 4, 3) := by decide +kernel
theorem dK5_breaks_89 : decode cK5_breaks 89 = .ok (.iconst 0, 1) := by decide +kernel
theorem dK5_breaks_90 : decode cK5_breaks 90 = .ok (.istore 6, 2) := by decide +kernel
theorem dK5_breaks_92 : decode cK5_breaks 92 = .ok (.iload 6, 2) := by decide +kernel
theorem dK5_breaks_94 : decode cK5_breaks 94 = .ok (.ifCond .eq 10, 3) := by decide +kernel
theorem dK5_breaks_97 : decode cK5_breaks 97 = .ok (.iload_n 3, 1) := by decide +kernel
theorem dK5_breaks_98 : decode cK5_breaks 98 = .ok (.ifCond .ne 6, 3) := by decide +kernel
theorem dK5_breaks_101 : decode cK5_breaks 101 = .ok (.iload 4, 2) := by decide +kernel
theorem dK5_breaks_103 : decode cK5_breaks 103 = .ok (.ireturn, 1) := by decide +kernel
theorem dK5_breaks_104 : decode cK5_breaks 104 = .ok (.iload_n 3, 1) := by decide +kernel
theorem dK5_breaks_105 : decode cK5_breaks 105 = .ok (.iload 6, 2) := by decide +kernel
theorem dK5_breaks_107 : decode cK5_breaks 107 = .ok (.ifCond .eq 7, 3) := by decide +kernel
theorem dK5_breaks_110 : decode cK5_breaks 110 = .ok (.iconst 1, 1) := by decide +kernel
theorem dK5_breaks_111 : decode cK5_breaks 111 = .ok (.goto 4, 3) := by decide +kernel
theorem dK5_breaks_114 : decode cK5_breaks 114 = .ok (.iconst 0, 1) := by decide +kernel
theorem dK5_breaks_115 : decode cK5_breaks 115 = .ok (.isub, 1) := by decide +kernel
theorem dK5_breaks_116 : decode cK5_breaks 116 = .ok (.istore_n 3, 1) := by decide +kernel
theorem dK5_breaks_117 : decode cK5_breaks 117 = .ok (.iinc 4 1, 3) := by decide +kernel
theorem dK5_breaks_120 : decode cK5_breaks 120 = .ok (.goto (-104), 3) := by decide +kernel
theorem dK5_breaks_123 : decode cK5_breaks 123 = .ok (.bipush (-2), 2) := by decide +kernel
theorem dK5_breaks_125 : decode cK5_breaks 125 = .ok (.ireturn, 1) := by decide +kernel
theorem dK5_apply_0 : decode cK5_apply 0 = .ok (.aload_n 0, 1) := by decide +kernel
theorem dK5_apply_1 : decode cK5_apply 1 = .ok (.iload_n 1, 1) := by decide +kernel
theorem dK5_apply_2 : decode cK5_apply 2 = .ok (.invokevirtual 156, 3) := by decide +kernel
theorem dK5_apply_5 : decode cK5_apply 5 = .ok (.ifCond .ne 6, 3) := by decide +kernel
theorem dK5_apply_8 : decode cK5_apply 8 = .ok (.bipush (-2), 2) := by decide +kernel
theorem dK5_apply_10 : decode cK5_apply 10 = .ok (.ireturn, 1) := by decide +kernel
theorem dK5_apply_11 : decode cK5_apply 11 = .ok (.aload_n 0, 1) := by decide +kernel
theorem dK5_apply_12 : decode cK5_apply 12 = .ok (.aload_n 0, 1) := by decide +kernel
theorem dK5_apply_13 : decode cK5_apply 13 = .ok (.getfield 42, 3) := by decide +kernel
theorem dK5_apply_16 : decode cK5_apply 16 = .ok (.iload_n 1, 1) := by decide +kernel
theorem dK5_apply_17 : decode cK5_apply 17 = .ok (.iaload, 1) := by decide +kernel
theorem dK5_apply_18 : decode cK5_apply 18 = .ok (.invokevirtual 88, 3) := by decide +kernel
theorem dK5_apply_21 : decode cK5_apply 21 = .ok (.iconst 0, 1) := by decide +kernel
theorem dK5_apply_22 : decode cK5_apply 22 = .ok (.istore_n 2, 1) := by decide +kernel
theorem dK5_apply_23 : decode cK5_apply 23 = .ok (.iload_n 2, 1) := by decide +kernel
theorem dK5_apply_24 : decode cK5_apply 24 = .ok (.sipush 864, 3) := by decide +kernel
theorem dK5_apply_27 : decode cK5_apply 27 = .ok (.if_icmp .ge 21, 3) := by decide +kernel
theorem dK5_apply_30 : decode cK5_apply 30 = .ok (.aload_n 0, 1) := by decide +kernel
theorem dK5_apply_31 : decode cK5_apply 31 = .ok (.getfield 7, 3) := by decide +kernel
theorem dK5_apply_34 : decode cK5_apply 34 = .ok (.iload_n 2, 1) := by decide +kernel
theorem dK5_apply_35 : decode cK5_apply 35 = .ok (.aload_n 0, 1) := by decide +kernel
theorem dK5_apply_36 : decode cK5_apply 36 = .ok (.getfield 13, 3) := by decide +kernel
theorem dK5_apply_39 : decode cK5_apply 39 = .ok (.iload_n 2, 1) := by decide +kernel
theorem dK5_apply_40 : decode cK5_apply 40 = .ok (.baload, 1) := by decide +kernel
theorem dK5_apply_41 : decode cK5_apply 41 = .ok (.bastore, 1) := by decide +kernel
theorem dK5_apply_42 : decode cK5_apply 42 = .ok (.iinc 2 1, 3) := by decide +kernel
theorem dK5_apply_45 : decode cK5_apply 45 = .ok (.goto (-22), 3) := by decide +kernel
theorem dK5_apply_48 : decode cK5_apply 48 = .ok (.aload_n 0, 1) := by decide +kernel
theorem dK5_apply_49 : decode cK5_apply 49 = .ok (.iconst 0, 1) := by decide +kernel
theorem dK5_apply_50 : decode cK5_apply 50 = .ok (.putfield 114, 3) := by decide +kernel
theorem dK5_apply_53 : decode cK5_apply 53 = .ok (.aload_n 0, 1) := by decide +kernel
theorem dK5_apply_54 : decode cK5_apply 54 = .ok (.invokevirtual 92, 3) := by decide +kernel
theorem dK5_apply_57 : decode cK5_apply 57 = .ok (.ireturn, 1) := by decide +kernel
theorem dK5_covered_0 : decode cK5_covered 0 = .ok (.aload_n 0, 1) := by decide +kernel
theorem dK5_covered_1 : decode cK5_covered 1 = .ok (.getfield 117, 3) := by decide +kernel
theorem dK5_covered_4 : decode cK5_covered 4 = .ok (.ifCond .eq 14, 3) := by decide +kernel
theorem dK5_covered_7 : decode cK5_covered 7 = .ok (.aload_n 0, 1) := by decide +kernel
theorem dK5_covered_8 : decode cK5_covered 8 = .ok (.getfield 153, 3) := by decide +kernel
theorem dK5_covered_11 : decode cK5_covered 11 = .ok (.iload_n 1, 1) := by decide +kernel
theorem dK5_covered_12 : decode cK5_covered 12 = .ok (.invokestatic 159, 3) := by decide +kernel
theorem dK5_covered_15 : decode cK5_covered 15 = .ok (.goto 5, 3) := by decide +kernel
theorem dK5_covered_18 : decode cK5_covered 18 = .ok (.bipush (-2), 2) := by decide +kernel
theorem dK5_covered_20 : decode cK5_covered 20 = .ok (.ireturn, 1) := by decide +kernel
theorem dK5_sentence_0 : decode cK5_sentence 0 = .ok (.aload_n 0, 1) := by decide +kernel
theorem dK5_sentence_1 : decode cK5_sentence 1 = .ok (.iload_n 1, 1) := by decide +kernel
theorem dK5_sentence_2 : decode cK5_sentence 2 = .ok (.invokevirtual 156, 3) := by decide +kernel
theorem dK5_sentence_5 : decode cK5_sentence 5 = .ok (.ifCond .ne 6, 3) := by decide +kernel
theorem dK5_sentence_8 : decode cK5_sentence 8 = .ok (.bipush (-2), 2) := by decide +kernel
theorem dK5_sentence_10 : decode cK5_sentence 10 = .ok (.ireturn, 1) := by decide +kernel
theorem dK5_sentence_11 : decode cK5_sentence 11 = .ok (.aload_n 0, 1) := by decide +kernel
theorem dK5_sentence_12 : decode cK5_sentence 12 = .ok (.iconst 0, 1) := by decide +kernel
theorem dK5_sentence_13 : decode cK5_sentence 13 = .ok (.putfield 163, 3) := by decide +kernel
theorem dK5_sentence_16 : decode cK5_sentence 16 = .ok (.iconst 0, 1) := by decide +kernel
theorem dK5_sentence_17 : decode cK5_sentence 17 = .ok (.istore_n 2, 1) := by decide +kernel
theorem dK5_sentence_18 : decode cK5_sentence 18 = .ok (.iload_n 2, 1) := by decide +kernel
theorem dK5_sentence_19 : decode cK5_sentence 19 = .ok (.bipush 12, 2) := by decide +kernel
theorem dK5_sentence_21 : decode cK5_sentence 21 = .ok (.if_icmp .ge 138, 3) := by decide +kernel
theorem dK5_sentence_24 : decode cK5_sentence 24 = .ok (.aload_n 0, 1) := by decide +kernel
theorem dK5_sentence_25 : decode cK5_sentence 25 = .ok (.getfield 42, 3) := by decide +kernel
theorem dK5_sentence_28 : decode cK5_sentence 28 = .ok (.iload_n 1, 1) := by decide +kernel
theorem dK5_sentence_29 : decode cK5_sentence 29 = .ok (.iaload, 1) := by decide +kernel
theorem dK5_sentence_30 : decode cK5_sentence 30 = .ok (.iload_n 2, 1) := by decide +kernel
theorem dK5_sentence_31 : decode cK5_sentence 31 = .ok (.ishr, 1) := by decide +kernel
theorem dK5_sentence_32 : decode cK5_sentence 32 = .ok (.iconst 1, 1) := by decide +kernel
theorem dK5_sentence_33 : decode cK5_sentence 33 = .ok (.iand, 1) := by decide +kernel
theorem dK5_sentence_34 : decode cK5_sentence 34 = .ok (.iconst 1, 1) := by decide +kernel
theorem dK5_sentence_35 : decode cK5_sentence 35 = .ok (.if_icmp .ne 118, 3) := by decide +kernel
theorem dK5_sentence_38 : decode cK5_sentence 38 = .ok (.aload_n 0, 1) := by decide +kernel
theorem dK5_sentence_39 : decode cK5_sentence 39 = .ok (.getfield 163, 3) := by decide +kernel
theorem dK5_sentence_42 : decode cK5_sentence 42 = .ok (.ifCond .le 15, 3) := by decide +kernel
theorem dK5_sentence_45 : decode cK5_sentence 45 = .ok (.aload_n 0, 1) := by decide +kernel
theorem dK5_sentence_46 : decode cK5_sentence 46 = .ok (.bipush 44, 2) := by decide +kernel
theorem dK5_sentence_48 : decode cK5_sentence 48 = .ok (.invokevirtual 166, 3) := by decide +kernel
theorem dK5_sentence_51 : decode cK5_sentence 51 = .ok (.aload_n 0, 1) := by decide +kernel
theorem dK5_sentence_52 : decode cK5_sentence 52 = .ok (.bipush 32, 2) := by decide +kernel
theorem dK5_sentence_54 : decode cK5_sentence 54 = .ok (.invokevirtual 166, 3) := by decide +kernel
theorem dK5_sentence_57 : decode cK5_sentence 57 = .ok (.aload_n 0, 1) := by decide +kernel
theorem dK5_sentence_58 : decode cK5_sentence 58 = .ok (.getfield 29, 3) := by decide +kernel
theorem dK5_sentence_61 : decode cK5_sentence 61 = .ok (.iload_n 2, 1) := by decide +kernel
theorem dK5_sentence_62 : decode cK5_sentence 62 = .ok (.baload, 1) := by decide +kernel
theorem dK5_sentence_63 : decode cK5_sentence 63 = .ok (.ifCond .eq 24, 3) := by decide +kernel
theorem dK5_sentence_66 : decode cK5_sentence 66 = .ok (.aload_n 0, 1) := by decide +kernel
theorem dK5_sentence_67 : decode cK5_sentence 67 = .ok (.bipush 112, 2) := by decide +kernel
theorem dK5_sentence_69 : decode cK5_sentence 69 = .ok (.invokevirtual 166, 3) := by decide +kernel
theorem dK5_sentence_72 : decode cK5_sentence 72 = .ok (.aload_n 0, 1) := by decide +kernel
theorem dK5_sentence_73 : decode cK5_sentence 73 = .ok (.bipush 117, 2) := by decide +kernel
theorem dK5_sentence_75 : decode cK5_sentence 75 = .ok (.invokevirtual 166, 3) := by decide +kernel
theorem dK5_sentence_78 : decode cK5_sentence 78 = .ok (.aload_n 0, 1) := by decide +kernel
theorem dK5_sentence_79 : decode cK5_sentence 79 = .ok (.bipush 116, 2) := by decide +kernel
theorem dK5_sentence_81 : decode cK5_sentence 81 = .ok (.invokevirtual 166, 3) := by decide +kernel
theorem dK5_sentence_84 : decode cK5_sentence 84 = .ok (.goto 27, 3) := by decide +kernel
theorem dK5_sentence_87 : decode cK5_sentence 87 = .ok (.aload_n 0, 1) := by decide +kernel
theorem dK5_sentence_88 : decode cK5_sentence 88 = .ok (.bipush 116, 2) := by decide +kernel
theorem dK5_sentence_90 : decode cK5_sentence 90 = .ok (.invokevirtual 166, 3) := by decide +kernel
theorem dK5_sentence_93 : decode cK5_sentence 93 = .ok (.aload_n 0, 1) := by decide +kernel
theorem dK5_sentence_94 : decode cK5_sentence 94 = .ok (.bipush 97, 2) := by decide +kernel
theorem dK5_sentence_96 : decode cK5_sentence 96 = .ok (.invokevirtual 166, 3) := by decide +kernel
theorem dK5_sentence_99 : decode cK5_sentence 99 = .ok (.aload_n 0, 1) := by decide +kernel
theorem dK5_sentence_100 : decode cK5_sentence 100 = .ok (.bipush 107, 2) := by decide +kernel
theorem dK5_sentence_102 : decode cK5_sentence 102 = .ok (.invokevirtual 166, 3) := by decide +kernel
theorem dK5_sentence_105 : decode cK5_sentence 105 = .ok (.aload_n 0, 1) := by decide +kernel
theorem dK5_sentence_106 : decode cK5_sentence 106 = .ok (.bipush 101, 2) := by decide +kernel
theorem dK5_sentence_108 : decode cK5_sentence 108 = .ok (.invokevirtual 166, 3) := by decide +kernel
theorem dK5_sentence_111 : decode cK5_sentence 111 = .ok (.aload_n 0, 1) := by decide +kernel
theorem dK5_sentence_112 : decode cK5_sentence 112 = .ok (.aload_n 0, 1) := by decide +kernel
theorem dK5_sentence_113 : decode cK5_sentence 113 = .ok (.getfield 32, 3) := by decide +kernel
theorem dK5_sentence_116 : decode cK5_sentence 116 = .ok (.iload_n 2, 1) := by decide +kernel
theorem dK5_sentence_117 : decode cK5_sentence 117 = .ok (.iaload, 1) := by decide +kernel
theorem dK5_sentence_118 : decode cK5_sentence 118 = .ok (.bipush 72, 2) := by decide +kernel
theorem dK5_sentence_120 : decode cK5_sentence 120 = .ok (.idiv, 1) := by decide +kernel
theorem dK5_sentence_121 : decode cK5_sentence 121 = .ok (.invokevirtual 169, 3) := by decide +kernel
theorem dK5_sentence_124 : decode cK5_sentence 124 = .ok (.aload_n 0, 1) := by decide +kernel
theorem dK5_sentence_125 : decode cK5_sentence 125 = .ok (.aload_n 0, 1) := by decide +kernel
theorem dK5_sentence_126 : decode cK5_sentence 126 = .ok (.getfield 32, 3) := by decide +kernel
theorem dK5_sentence_129 : decode cK5_sentence 129 = .ok (.iload_n 2, 1) := by decide +kernel
theorem dK5_sentence_130 : decode cK5_sentence 130 = .ok (.iaload, 1) := by decide +kernel
theorem dK5_sentence_131 : decode cK5_sentence 131 = .ok (.bipush 12, 2) := by decide +kernel
theorem dK5_sentence_133 : decode cK5_sentence 133 = .ok (.idiv, 1) := by decide +kernel
theorem dK5_sentence_134 : decode cK5_sentence 134 = .ok (.bipush 6, 2) := by decide +kernel
theorem dK5_sentence_136 : decode cK5_sentence 136 = .ok (.irem, 1) := by decide +kernel
theorem dK5_sentence_137 : decode cK5_sentence 137 = .ok (.invokevirtual 169, 3) := by decide +kernel
theorem dK5_sentence_140 : decode cK5_sentence 140 = .ok (.aload_n 0, 1) := by decide +kernel
theorem dK5_sentence_141 : decode cK5_sentence 141 = .ok (.aload_n 0, 1) := by decide +kernel
theorem dK5_sentence_142 : decode cK5_sentence 142 = .ok (.getfield 32, 3) := by decide +kernel
theorem dK5_sentence_145 : decode cK5_sentence 145 = .ok (.iload_n 2, 1) := by decide +kernel
theorem dK5_sentence_146 : decode cK5_sentence 146 = .ok (.iaload, 1) := by decide +kernel
theorem dK5_sentence_147 : decode cK5_sentence 147 = .ok (.bipush 12, 2) := by decide +kernel
theorem dK5_sentence_149 : decode cK5_sentence 149 = .ok (.irem, 1) := by decide +kernel
theorem dK5_sentence_150 : decode cK5_sentence 150 = .ok (.invokevirtual 169, 3) := by decide +kernel
theorem dK5_sentence_153 : decode cK5_sentence 153 = .ok (.iinc 2 1, 3) := by decide +kernel
theorem dK5_sentence_156 : decode cK5_sentence 156 = .ok (.goto (-138), 3) := by decide +kernel
theorem dK5_sentence_159 : decode cK5_sentence 159 = .ok (.aload_n 0, 1) := by decide +kernel
theorem dK5_sentence_160 : decode cK5_sentence 160 = .ok (.bipush 46, 2) := by decide +kernel
theorem dK5_sentence_162 : decode cK5_sentence 162 = .ok (.invokevirtual 166, 3) := by decide +kernel
theorem dK5_sentence_165 : decode cK5_sentence 165 = .ok (.aload_n 0, 1) := by decide +kernel
theorem dK5_sentence_166 : decode cK5_sentence 166 = .ok (.getfield 163, 3) := by decide +kernel
theorem dK5_sentence_169 : decode cK5_sentence 169 = .ok (.ireturn, 1) := by decide +kernel
theorem dK5_tell_0 : decode cK5_tell 0 = .ok (.aload_n 0, 1) := by decide +kernel
theorem dK5_tell_1 : decode cK5_tell 1 = .ok (.getfield 54, 3) := by decide +kernel
theorem dK5_tell_4 : decode cK5_tell 4 = .ok (.aload_n 0, 1) := by decide +kernel
theorem dK5_tell_5 : decode cK5_tell 5 = .ok (.getfield 163, 3) := by decide +kernel
theorem dK5_tell_8 : decode cK5_tell 8 = .ok (.iload_n 1, 1) := by decide +kernel
theorem dK5_tell_9 : decode cK5_tell 9 = .ok (.iastore, 1) := by decide +kernel
theorem dK5_tell_10 : decode cK5_tell 10 = .ok (.aload_n 0, 1) := by decide +kernel
theorem dK5_tell_11 : decode cK5_tell 11 = .ok (.dup, 1) := by decide +kernel
theorem dK5_tell_12 : decode cK5_tell 12 = .ok (.getfield 163, 3) := by decide +kernel
theorem dK5_tell_15 : decode cK5_tell 15 = .ok (.iconst 1, 1) := by decide +kernel
theorem dK5_tell_16 : decode cK5_tell 16 = .ok (.iadd, 1) := by decide +kernel
theorem dK5_tell_17 : decode cK5_tell 17 = .ok (.putfield 163, 3) := by decide +kernel
theorem dK5_tell_20 : decode cK5_tell 20 = .ok (.return_, 1) := by decide +kernel
theorem dK5_tellNumber_0 : decode cK5_tellNumber 0 = .ok (.aload_n 0, 1) := by decide +kernel
theorem dK5_tellNumber_1 : decode cK5_tellNumber 1 = .ok (.bipush 32, 2) := by decide +kernel
theorem dK5_tellNumber_3 : decode cK5_tellNumber 3 = .ok (.invokevirtual 166, 3) := by decide +kernel
theorem dK5_tellNumber_6 : decode cK5_tellNumber 6 = .ok (.iload_n 1, 1) := by decide +kernel
theorem dK5_tellNumber_7 : decode cK5_tellNumber 7 = .ok (.bipush 9, 2) := by decide +kernel
theorem dK5_tellNumber_9 : decode cK5_tellNumber 9 = .ok (.if_icmp .le 14, 3) := by decide +kernel
theorem dK5_tellNumber_12 : decode cK5_tellNumber 12 = .ok (.aload_n 0, 1) := by decide +kernel
theorem dK5_tellNumber_13 : decode cK5_tellNumber 13 = .ok (.bipush 48, 2) := by decide +kernel
theorem dK5_tellNumber_15 : decode cK5_tellNumber 15 = .ok (.iload_n 1, 1) := by decide +kernel
theorem dK5_tellNumber_16 : decode cK5_tellNumber 16 = .ok (.bipush 10, 2) := by decide +kernel
theorem dK5_tellNumber_18 : decode cK5_tellNumber 18 = .ok (.idiv, 1) := by decide +kernel
theorem dK5_tellNumber_19 : decode cK5_tellNumber 19 = .ok (.iadd, 1) := by decide +kernel
theorem dK5_tellNumber_20 : decode cK5_tellNumber 20 = .ok (.invokevirtual 166, 3) := by decide +kernel
theorem dK5_tellNumber_23 : decode cK5_tellNumber 23 = .ok (.aload_n 0, 1) := by decide +kernel
theorem dK5_tellNumber_24 : decode cK5_tellNumber 24 = .ok (.bipush 48, 2) := by decide +kernel
theorem dK5_tellNumber_26 : decode cK5_tellNumber 26 = .ok (.iload_n 1, 1) := by decide +kernel
theorem dK5_tellNumber_27 : decode cK5_tellNumber 27 = .ok (.bipush 10, 2) := by decide +kernel
theorem dK5_tellNumber_29 : decode cK5_tellNumber 29 = .ok (.irem, 1) := by decide +kernel
theorem dK5_tellNumber_30 : decode cK5_tellNumber 30 = .ok (.iadd, 1) := by decide +kernel
theorem dK5_tellNumber_31 : decode cK5_tellNumber 31 = .ok (.invokevirtual 166, 3) := by decide +kernel
theorem dK5_tellNumber_34 : decode cK5_tellNumber 34 = .ok (.return_, 1) := by decide +kernel
theorem dK5_letter_0 : decode cK5_letter 0 = .ok (.iload_n 1, 1) := by decide +kernel
theorem dK5_letter_1 : decode cK5_letter 1 = .ok (.iconst 0, 1) := by decide +kernel
theorem dK5_letter_2 : decode cK5_letter 2 = .ok (.aload_n 0, 1) := by decide +kernel
theorem dK5_letter_3 : decode cK5_letter 3 = .ok (.getfield 163, 3) := by decide +kernel
theorem dK5_letter_6 : decode cK5_letter 6 = .ok (.iconst 1, 1) := by decide +kernel
theorem dK5_letter_7 : decode cK5_letter 7 = .ok (.isub, 1) := by decide +kernel
theorem dK5_letter_8 : decode cK5_letter 8 = .ok (.invokestatic 61, 3) := by decide +kernel
theorem dK5_letter_11 : decode cK5_letter 11 = .ok (.ifCond .eq 12, 3) := by decide +kernel
theorem dK5_letter_14 : decode cK5_letter 14 = .ok (.aload_n 0, 1) := by decide +kernel
theorem dK5_letter_15 : decode cK5_letter 15 = .ok (.getfield 54, 3) := by decide +kernel
theorem dK5_letter_18 : decode cK5_letter 18 = .ok (.iload_n 1, 1) := by decide +kernel
theorem dK5_letter_19 : decode cK5_letter 19 = .ok (.iaload, 1) := by decide +kernel
theorem dK5_letter_20 : decode cK5_letter 20 = .ok (.goto 5, 3) := by decide +kernel
theorem dK5_letter_23 : decode cK5_letter 23 = .ok (.bipush (-2), 2) := by decide +kernel
theorem dK5_letter_25 : decode cK5_letter 25 = .ok (.ireturn, 1) := by decide +kernel
end
section
/-! own rows: the words of the models (Option), and the kit's calls and returns wrapped for worlds whose cells stay where they are -/
def bd0 {G : Type} (o : Option Unit) (f : Option G) : Option G := o.bind fun _ => f
theorem bd0_s {G : Type} {o : Option Unit} {f : Option G} {r : G} (h : bd0 o f = some r) : o = some () ∧ f = some r := by
  unfold bd0 at h
  cases o with
  | none => cases h
  | some a => exact ⟨rfl, h⟩
def bd1 {A1 G : Type} (o : Option (A1)) (f : A1 → Option G) : Option G := o.bind fun q => f q
theorem bd1_s {A1 G : Type} {o : Option (A1)} {f : A1 → Option G} {r : G} (h : bd1 o f = some r) : ∃ a1, o = some a1 ∧ f a1 = some r := by
  unfold bd1 at h
  cases o with
  | none => cases h
  | some q => exact ⟨q, rfl, h⟩
def bd2 {A1 A2 G : Type} (o : Option (A1 × A2)) (f : A1 → A2 → Option G) : Option G := o.bind fun q => f q.1 q.2
theorem bd2_s {A1 A2 G : Type} {o : Option (A1 × A2)} {f : A1 → A2 → Option G} {r : G} (h : bd2 o f = some r) : ∃ a1 a2, o = some (a1, a2) ∧ f a1 a2 = some r := by
  unfold bd2 at h
  cases o with
  | none => cases h
  | some q => exact ⟨q.1, q.2, rfl, h⟩
def bd3 {A1 A2 A3 G : Type} (o : Option (A1 × A2 × A3)) (f : A1 → A2 → A3 → Option G) : Option G := o.bind fun q => f q.1 q.2.1 q.2.2
theorem bd3_s {A1 A2 A3 G : Type} {o : Option (A1 × A2 × A3)} {f : A1 → A2 → A3 → Option G} {r : G} (h : bd3 o f = some r) : ∃ a1 a2 a3, o = some (a1, a2, a3) ∧ f a1 a2 a3 = some r := by
  unfold bd3 at h
  cases o with
  | none => cases h
  | some q => exact ⟨q.1, q.2.1, q.2.2, rfl, h⟩
def bd4 {A1 A2 A3 A4 G : Type} (o : Option (A1 × A2 × A3 × A4)) (f : A1 → A2 → A3 → A4 → Option G) : Option G := o.bind fun q => f q.1 q.2.1 q.2.2.1 q.2.2.2
theorem bd4_s {A1 A2 A3 A4 G : Type} {o : Option (A1 × A2 × A3 × A4)} {f : A1 → A2 → A3 → A4 → Option G} {r : G} (h : bd4 o f = some r) : ∃ a1 a2 a3 a4, o = some (a1, a2, a3, a4) ∧ f a1 a2 a3 a4 = some r := by
  unfold bd4 at h
  cases o with
  | none => cases h
  | some q => exact ⟨q.1, q.2.1, q.2.2.1, q.2.2.2, rfl, h⟩
def bd5 {A1 A2 A3 A4 A5 G : Type} (o : Option (A1 × A2 × A3 × A4 × A5)) (f : A1 → A2 → A3 → A4 → A5 → Option G) : Option G := o.bind fun q => f q.1 q.2.1 q.2.2.1 q.2.2.2.1 q.2.2.2.2
theorem bd5_s {A1 A2 A3 A4 A5 G : Type} {o : Option (A1 × A2 × A3 × A4 × A5)} {f : A1 → A2 → A3 → A4 → A5 → Option G} {r : G} (h : bd5 o f = some r) : ∃ a1 a2 a3 a4 a5, o = some (a1, a2, a3, a4, a5) ∧ f a1 a2 a3 a4 a5 = some r := by
  unfold bd5 at h
  cases o with
  | none => cases h
  | some q => exact ⟨q.1, q.2.1, q.2.2.1, q.2.2.2.1, q.2.2.2.2, rfl, h⟩
def bd6 {A1 A2 A3 A4 A5 A6 G : Type} (o : Option (A1 × A2 × A3 × A4 × A5 × A6)) (f : A1 → A2 → A3 → A4 → A5 → A6 → Option G) : Option G := o.bind fun q => f q.1 q.2.1 q.2.2.1 q.2.2.2.1 q.2.2.2.2.1 q.2.2.2.2.2
theorem bd6_s {A1 A2 A3 A4 A5 A6 G : Type} {o : Option (A1 × A2 × A3 × A4 × A5 × A6)} {f : A1 → A2 → A3 → A4 → A5 → A6 → Option G} {r : G} (h : bd6 o f = some r) : ∃ a1 a2 a3 a4 a5 a6, o = some (a1, a2, a3, a4, a5, a6) ∧ f a1 a2 a3 a4 a5 a6 = some r := by
  unfold bd6 at h
  cases o with
  | none => cases h
  | some q => exact ⟨q.1, q.2.1, q.2.2.1, q.2.2.2.1, q.2.2.2.2.1, q.2.2.2.2.2, rfl, h⟩
def bd7 {A1 A2 A3 A4 A5 A6 A7 G : Type} (o : Option (A1 × A2 × A3 × A4 × A5 × A6 × A7)) (f : A1 → A2 → A3 → A4 → A5 → A6 → A7 → Option G) : Option G := o.bind fun q => f q.1 q.2.1 q.2.2.1 q.2.2.2.1 q.2.2.2.2.1 q.2.2.2.2.2.1 q.2.2.2.2.2.2
theorem bd7_s {A1 A2 A3 A4 A5 A6 A7 G : Type} {o : Option (A1 × A2 × A3 × A4 × A5 × A6 × A7)} {f : A1 → A2 → A3 → A4 → A5 → A6 → A7 → Option G} {r : G} (h : bd7 o f = some r) : ∃ a1 a2 a3 a4 a5 a6 a7, o = some (a1, a2, a3, a4, a5, a6, a7) ∧ f a1 a2 a3 a4 a5 a6 a7 = some r := by
  unfold bd7 at h
  cases o with
  | none => cases h
  | some q => exact ⟨q.1, q.2.1, q.2.2.1, q.2.2.2.1, q.2.2.2.2.1, q.2.2.2.2.2.1, q.2.2.2.2.2.2, rfl, h⟩
def bd8 {A1 A2 A3 A4 A5 A6 A7 A8 G : Type} (o : Option (A1 × A2 × A3 × A4 × A5 × A6 × A7 × A8)) (f : A1 → A2 → A3 → A4 → A5 → A6 → A7 → A8 → Option G) : Option G := o.bind fun q => f q.1 q.2.1 q.2.2.1 q.2.2.2.1 q.2.2.2.2.1 q.2.2.2.2.2.1 q.2.2.2.2.2.2.1 q.2.2.2.2.2.2.2
theorem bd8_s {A1 A2 A3 A4 A5 A6 A7 A8 G : Type} {o : Option (A1 × A2 × A3 × A4 × A5 × A6 × A7 × A8)} {f : A1 → A2 → A3 → A4 → A5 → A6 → A7 → A8 → Option G} {r : G} (h : bd8 o f = some r) : ∃ a1 a2 a3 a4 a5 a6 a7 a8, o = some (a1, a2, a3, a4, a5, a6, a7, a8) ∧ f a1 a2 a3 a4 a5 a6 a7 a8 = some r := by
  unfold bd8 at h
  cases o with
  | none => cases h
  | some q => exact ⟨q.1, q.2.1, q.2.2.1, q.2.2.2.1, q.2.2.2.2.1, q.2.2.2.2.2.1, q.2.2.2.2.2.2.1, q.2.2.2.2.2.2.2, rfl, h⟩
def bd9 {A1 A2 A3 A4 A5 A6 A7 A8 A9 G : Type} (o : Option (A1 × A2 × A3 × A4 × A5 × A6 × A7 × A8 × A9)) (f : A1 → A2 → A3 → A4 → A5 → A6 → A7 → A8 → A9 → Option G) : Option G := o.bind fun q => f q.1 q.2.1 q.2.2.1 q.2.2.2.1 q.2.2.2.2.1 q.2.2.2.2.2.1 q.2.2.2.2.2.2.1 q.2.2.2.2.2.2.2.1 q.2.2.2.2.2.2.2.2
theorem bd9_s {A1 A2 A3 A4 A5 A6 A7 A8 A9 G : Type} {o : Option (A1 × A2 × A3 × A4 × A5 × A6 × A7 × A8 × A9)} {f : A1 → A2 → A3 → A4 → A5 → A6 → A7 → A8 → A9 → Option G} {r : G} (h : bd9 o f = some r) : ∃ a1 a2 a3 a4 a5 a6 a7 a8 a9, o = some (a1, a2, a3, a4, a5, a6, a7, a8, a9) ∧ f a1 a2 a3 a4 a5 a6 a7 a8 a9 = some r := by
  unfold bd9 at h
  cases o with
  | none => cases h
  | some q => exact ⟨q.1, q.2.1, q.2.2.1, q.2.2.2.1, q.2.2.2.2.1, q.2.2.2.2.2.1, q.2.2.2.2.2.2.1, q.2.2.2.2.2.2.2.1, q.2.2.2.2.2.2.2.2, rfl, h⟩
def bd10 {A1 A2 A3 A4 A5 A6 A7 A8 A9 A10 G : Type} (o : Option (A1 × A2 × A3 × A4 × A5 × A6 × A7 × A8 × A9 × A10)) (f : A1 → A2 → A3 → A4 → A5 → A6 → A7 → A8 → A9 → A10 → Option G) : Option G := o.bind fun q => f q.1 q.2.1 q.2.2.1 q.2.2.2.1 q.2.2.2.2.1 q.2.2.2.2.2.1 q.2.2.2.2.2.2.1 q.2.2.2.2.2.2.2.1 q.2.2.2.2.2.2.2.2.1 q.2.2.2.2.2.2.2.2.2
theorem bd10_s {A1 A2 A3 A4 A5 A6 A7 A8 A9 A10 G : Type} {o : Option (A1 × A2 × A3 × A4 × A5 × A6 × A7 × A8 × A9 × A10)} {f : A1 → A2 → A3 → A4 → A5 → A6 → A7 → A8 → A9 → A10 → Option G} {r : G} (h : bd10 o f = some r) : ∃ a1 a2 a3 a4 a5 a6 a7 a8 a9 a10, o = some (a1, a2, a3, a4, a5, a6, a7, a8, a9, a10) ∧ f a1 a2 a3 a4 a5 a6 a7 a8 a9 a10 = some r := by
  unfold bd10 at h
  cases o with
  | none => cases h
  | some q => exact ⟨q.1, q.2.1, q.2.2.1, q.2.2.2.1, q.2.2.2.2.1, q.2.2.2.2.2.1, q.2.2.2.2.2.2.1, q.2.2.2.2.2.2.2.1, q.2.2.2.2.2.2.2.2.1, q.2.2.2.2.2.2.2.2.2, rfl, h⟩
theorem ift {c : Prop} [Decidable c] {A : Type} {a b r : A} (h : (if c then a else b) = r) (hc : c) : a = r := by rw [if_pos hc] at h; exact h
theorem iff_ {c : Prop} [Decidable c] {A : Type} {a b r : A} (h : (if c then a else b) = r) (hc : ¬ c) : b = r := by rw [if_neg hc] at h; exact h
def inB (i : Int32) (n : Nat) : Bool := decide (¬ (i < 0 ∨ n ≤ i.toNatClampNeg))
theorem inB_vp {i : Int32} {n : Nat} (h : inB i n = true) : vp_in i n := of_decide_eq_true (p := ¬ (i < 0 ∨ n ≤ i.toNatClampNeg)) h
theorem inB_of {i : Int32} {n : Nat} (h : vp_in i n) : inB i n = true := decide_eq_true (p := ¬ (i < 0 ∨ n ≤ i.toNatClampNeg)) h
def rd (f : Nat → Int32) (n : Nat) (i : Int32) : Option Int32 := if inB i n = true then some (f i.toNatClampNeg) else none
def wrt (f : Nat → Int32) (n : Nat) (i x : Int32) : Option (Nat → Int32) := if inB i n = true then some (upd f i.toNatClampNeg x) else none
theorem rd_s {f : Nat → Int32} {n : Nat} {i x : Int32} (h : rd f n i = some x) : vp_in i n ∧ f i.toNatClampNeg = x := by
  unfold rd at h
  split at h
  · rename_i hb
    exact ⟨inB_vp hb, Option.some.inj h⟩
  · cases h
theorem wrt_s {f g : Nat → Int32} {n : Nat} {i x : Int32} (h : wrt f n i x = some g) : vp_in i n ∧ upd f i.toNatClampNeg x = g := by
  unfold wrt at h
  split at h
  · rename_i hb
    exact ⟨inB_vp hb, Option.some.inj h⟩
  · cases h
def bz (x : Int32) : Option Int32 := if x = 0 ∨ x = 1 then some x else none
theorem bz_s {x y : Int32} (h : bz x = some y) : x = y ∧ (y = 0 ∨ y = 1) := by
  unfold bz at h
  split at h
  · rename_i hb
    have e := Option.some.inj h
    exact ⟨e, e ▸ hb⟩
  · cases h
theorem bz_n {x : Int32} (h : x = 0 ∨ x = 1) : narrow .boolean (.int x) = .int x := by rcases h with rfl | rfl <;> rfl
theorem bz_f {x : Int32} (h : x = 0 ∨ x = 1) : fits .boolean (.int x) = true := by rcases h with rfl | rfl <;> rfl
def ush (x y : Int32) : Int32 := (x.toUInt32 >>> (y.toUInt32 &&& Int32.toUInt32 31)).toInt32
def i2c (x : Int32) : Int32 := (x.toUInt32 % 65536).toInt32
def i2b (x : Int32) : Int32 := x.toInt8.toInt32
theorem fm_of {is : List Nat} {ws ws' : va_W} (h : is.map (fun i => ws[i]?) = ws'.map some) : is.filterMap (fun i => ws[i]?) = ws' := by
  have e : is.filterMap (fun i => ws[i]?) = (is.map (fun i => ws[i]?)).filterMap id := by rw [List.filterMap_map]; rfl
  rw [e, h, List.filterMap_map]
  show List.filterMap some ws' = ws'
  exact List.filterMap_some
theorem htsA {y : MethodName} {b : ByteArray} {n : Nat} {r : Option FieldType} {args : Array Value} {s : State} (h : ∀ w ∈ (Cond.code y b n r :: ALLW), w.before args s = true) : ∀ w ∈ ALLW, w.before args s = true := fun w hw => h w (List.mem_cons_of_mem _ hw)
theorem allG : GoodIn ALLW ALLW := fun w h => ⟨h, good_of_word (List.mem_filter.mp h).2⟩
theorem gdC {y : MethodName} {b : ByteArray} {n : Nat} {r : Option FieldType} (hc : Cond.code y b n r ∈ ALLW) : GoodIn ALLW (Cond.code y b n r :: ALLW) := fun w h => (List.mem_cons.mp h).elim (fun e => by rw [e]; exact allG _ hc) (allG w)
theorem gdS {own : String} {idx : Nat} {y : MethodName} {ws : List Cond} (h1 : Cond.methodLink own idx y ∈ ALLW) (h2 : Cond.static y ∈ ALLW) (h3 : Cond.initialized y.cls ∈ ALLW) (hw : GoodIn ALLW ws) : GoodIn ALLW (va_wsS own idx y ws) := by
  intro w h
  unfold va_wsS at h
  simp only [List.cons_append, List.nil_append, List.mem_cons] at h
  rcases h with rfl | rfl | rfl | h
  · exact allG _ h1
  · exact allG _ h2
  · exact allG _ h3
  · exact hw w h
theorem gdV {own C : String} {idx : Nat} {y : MethodName} {ws : List Cond} (h1 : Cond.methodLink own idx y ∈ ALLW) (h2 : Cond.instanceMethod y ∈ ALLW) (h3 : Cond.selects C y y ∈ ALLW) (h4 : Cond.initialized C ∈ ALLW) (hw : GoodIn ALLW ws) : GoodIn ALLW (wsV own idx C y ws) := by
  intro w h
  unfold wsV at h
  simp only [List.cons_append, List.nil_append, List.mem_cons] at h
  rcases h with rfl | rfl | rfl | rfl | h
  · exact allG _ h1
  · exact allG _ h2
  · exact allG _ h3
  · exact allG _ h4
  · exact hw w h
def imin (x y : Int32) : Int32 := if y < x then y else x
abbrev tyL (cI cZ cB cC : ClassId) : List (ClassId × FieldType) := [(cI, .int), (cZ, .boolean), (cB, .byte), (cC, .char)]
/-- the words of private members of nest mates -/
def nestW : List Cond := [Cond.fieldLinkNest "ReportCauses" 216 "ReportCauses$Rules" "kind" "[I" "ReportCauses", Cond.fieldLinkNest "ReportCauses" 122 "ReportCauses$Rules" "target" "[I" "ReportCauses", Cond.fieldLinkNest "ReportCauses" 210 "ReportCauses$Rules" "predicate" "[I" "ReportCauses", Cond.fieldLinkNest "ReportCauses" 213 "ReportCauses$Rules" "number" "[I" "ReportCauses", Cond.fieldLinkNest "ReportCauses" 80 "ReportCauses$Rules" "count" "I" "ReportCauses", Cond.fieldLinkNest "ReportCauses" 121 "ReportCauses$Changes" "count" "I" "ReportCauses", Cond.fieldLinkNest "ReportCauses" 149 "ReportCauses$Findings" "count" "I" "ReportCauses", Cond.methodLinkNest "ReportCauses$Triples" 29 yK0_hasMember "ReportCauses", Cond.methodLinkNest "ReportCauses$Rules" 42 yK0_hasMember "ReportCauses", Cond.methodLinkNest "ReportCauses$Triples" 55 yK0_codeOf "ReportCauses", Cond.methodLinkNest "ReportCauses$Changes" 26 yK0_hasMember "ReportCauses"]
def isNest : Cond → Bool
  | .fieldLinkNest _ _ _ _ _ _ => true
  | .methodLinkNest _ _ _ _ => true
  | _ => false
theorem nestW_is : ∀ w ∈ nestW, isNest w = true := by decide +kernel
def NW (U : State) : Prop := ∀ w ∈ nestW, va_Nw w U
theorem isNest_tab {w : Cond} (h : isNest w = true) : w.onTables = true := by cases w <;> first | rfl | cases h
theorem NW.warm {s U : State} (hW : s.WarmedH U.vm) (h : NW s) : NW U := by
  intro w hw
  have h1 := nestW_is w hw
  have h2 := h w hw
  cases w <;> first | exact va_Nw.warmF hW h2 | exact va_Nw.warmM hW h2 | cases h1
theorem NW.same {s U : State} (hv : s.vm = U.vm) (h : NW s) : NW U := fun w hw => va_Nw.same (isNest_tab (nestW_is w hw)) hv (h w hw)
theorem nwM {U : State} (h : NW U) (k : Nat) {w : Cond} (hk : nestW[k]? = some w) : va_Nw w U := h w (List.mem_of_getElem? hk)
theorem nw {U : State} (h : NW U) (k : Nat) {w : Cond} (hk : nestW[k]? = some w) {args : Array Value} : w.before args U = true := va_Nw.use (isNest_tab (nestW_is w (List.mem_of_getElem? hk))) (nwM h k hk)
/-- how a method begins and ends -/
def Pr (D : va_G) (tys : List (ClassId × FieldType)) (sz : Nat) (ws : va_W) (U : State) : Prop := U.heap.size = sz ∧ va_P D vwCl ws U.heap ∧ va_K D vwCl tys U ∧ va_D (fun _ => True) ws ∧ NW U
def Po (D : va_G) (A : Nat → Prop) (ws : va_W) (t : State) : Prop := va_P D vwCl ws t.heap ∧ va_D A ws
abbrev QI (D : va_G) (A : Nat → Prop) (r0 : Int32) (ws : va_W) : Array Value → State → Outcome → State → Prop := va_Qi (fun (r : Int32) (_ : Unit) => r = r0) (fun _ t => Po D A ws t) A
abbrev QV (D : va_G) (A : Nat → Prop) (ws : va_W) : Array Value → State → Outcome → State → Prop := va_Qv (fun (_ : Unit) => True) (fun _ t => Po D A ws t) A
theorem Pr_blind {D : va_G} {tys : List (ClassId × FieldType)} {sz : Nat} {ws : va_W} {av : List Value} : FrameBlind (va_Pc av (Pr D tys sz ws)) := fun a U g mk q => by
  obtain ⟨q0, q1, qP, qK, qD, qN⟩ := q
  exact ⟨q0, q1, qP, va_K.moved (u := U) (U := U.calling g mk a) (Vm.Alike.refl U.vm) qK, qD, NW.same (s := U) (U := U.calling g mk a) rfl qN⟩
theorem Pr_at {D : va_G} {tys : List (ClassId × FieldType)} {ws : va_W} {s U : State} {H : Heap} {A : Nat → Prop} (hK : va_K D vwCl tys s) (hN : NW s) (hP : va_P D vwCl ws H) (hD : va_D A ws) (hU : U.heap = H) (hW : s.WarmedH U.vm) : Pr D tys H.size ws U :=
  ⟨by rw [hU], by rw [hU]; exact hP, va_K.moved hW.alike hK, hD.weaken (fun _ _ _ _ => trivial), hN.warm hW⟩
/-- an array class is the only one of its kind -/
theorem tyU {D : va_G} {tys : List (ClassId × FieldType)} {s : State} {cA : ClassId} {ty : FieldType} (h : va_K D vwCl (tys ++ [(cA, ty)]) s) (k : Nat) {cI : ClassId} (hk : tys[k]? = some (cI, ty)) (hp : refKind ty = false) : cI = cA := by
  have hl : k < tys.length := (List.getElem?_eq_some_iff.mp hk).1
  have h1 := (h.2 k (cI, ty) (by rw [List.getElem?_append_left hl]; exact hk)).2
  have h2 := (h.2 tys.length (cA, ty) (by rw [List.getElem?_append_right (Nat.le_refl _), Nat.sub_self]; rfl)).2
  cases ty <;> first | exact Option.some.inj (h1.symm.trans h2) | cases hp
theorem va_P0 {D : va_G} {H : Heap} : va_P D vwCl [] H := fun k q h => by simp at h
theorem va_D0 {A : Nat → Prop} : va_D A [] := ⟨fun i j p q h => by simp at h, fun k q h => by simp at h⟩
section OwnRows
variable {p : Program} {l : Launch} {e : Env} {R : Room} {s : State} {m : MethodId} {args : Array Value} {below : List Frame} {meth : Method} {c : Code} {H : Heap} {locs : List Loc} {cells slots : Nat} {Q : State → Prop} {pc : Nat} {ls : Array Slot} {rest : List Value} {cc : ByteArray} {D : va_G} {A : Nat → Prop} {H0 : Heap}
theorem topi {x y : Int32} (h : x = y) (k : W p l e R s m args below meth c H locs cells slots Q (F0 m pc ls (.int y :: rest))) : W p l e R s m args below meth c H locs cells slots Q (F0 m pc ls (.int x :: rest)) := by subst h; exact k
theorem k_reti {ws : va_W} {v : Int32} (hx : p.tables.exec = Jvm.exec) (hb : c.code = cc) (hr : meth.sig.returnType = some .int) (hlocks : meth.locks = false) (hP : va_P D vwCl ws H) (hD : va_D A ws) (hS : va_S A s.heap H locs) (hdg : decode cc pc = .ok (.ireturn, 1)) : W p l e R s m args below meth c H locs cells slots (MQ below (QI D A v ws) args s cells slots A) (F0 m pc ls [.int v]) :=
  W.iret (v := v) hx hb hr (fun t ht hW => ⟨⟨v, (), rfl, rfl, by rw [ht]; exact hP, hD⟩, hS.F ht⟩) hS.2.2 hdg hlocks
theorem k_retz {ws : va_W} {v : Int32} {ty : FieldType} (hx : p.tables.exec = Jvm.exec) (hb : c.code = cc) (hr : meth.sig.returnType = some ty) (hlocks : meth.locks = false) (hn : narrow ty (.int v) = .int v) (hP : va_P D vwCl ws H) (hD : va_D A ws) (hS : va_S A s.heap H locs) (hdg : decode cc pc = .ok (.ireturn, 1)) : W p l e R s m args below meth c H locs cells slots (MQ below (QI D A v ws) args s cells slots A) (F0 m pc ls [.int v]) :=
  W.zret (v := v) hx hb hr hn (fun t ht hW => ⟨⟨v, (), rfl, rfl, by rw [ht]; exact hP, hD⟩, hS.F ht⟩) hS.2.2 hdg hlocks
theorem k_retv {ws : va_W} (hx : p.tables.exec = Jvm.exec) (hb : c.code = cc) (hr : meth.sig.returnType = none) (hlocks : meth.locks = false) (hP : va_P D vwCl ws H) (hD : va_D A ws) (hS : va_S A s.heap H locs) (hdg : decode cc pc = .ok (.return_, 1)) : W p l e R s m args below meth c H locs cells slots (MQ below (QV D A ws) args s cells slots A) (F0 m pc ls []) :=
  W.vret hx hb hr (fun t ht hW => ⟨⟨(), rfl, trivial, by rw [ht]; exact hP, hD⟩, hS.F ht⟩) hS.2.2 hdg hlocks
theorem k_retvu {S : Type} {ws : S → va_W} (u : S) (hx : p.tables.exec = Jvm.exec) (hb : c.code = cc) (hr : meth.sig.returnType = none) (hlocks : meth.locks = false) (hP : va_P D vwCl (ws u) H) (hD : va_D A (ws u)) (hS : va_S A s.heap H locs) (hdg : decode cc pc = .ok (.return_, 1)) : W p l e R s m args below meth c H locs cells slots (MQ below (va_Qv (fun (_ : S) => True) (fun u t => Po D A (ws u) t) A) args s cells slots A) (F0 m pc ls []) :=
  W.vret hx hb hr (fun t ht hW => ⟨⟨u, rfl, trivial, by rw [ht]; exact hP, hD⟩, hS.F ht⟩) hS.2.2 hdg hlocks
variable {ws wc wr w1 ws' : va_W} {st0 : List Value} {a : Array Value} {r0 : Int32}
theorem k_calli (hr : va_Run p l e R s m args below meth c H locs cells slots 0 0 (F0 m pc ls st0) rest (QI D (va_A wc H.size) r0 w1 a) (va_A wc H.size)) (hP : va_P D vwCl ws H) (hD : va_D A ws) (hS : va_S A H0 H locs) (hA : ∀ q, H0.size ≤ q → A q) (isC isR pm : List Nat) (hC : isC.map (fun i => ws[i]?) = wc.map some) (hR : isR.map (fun i => ws[i]?) = wr.map some) (hn : va_nd isR = true) (hdis : ∀ i ∈ isR, i ∉ isC) (hpn : va_nd pm = true) (hpm : pm.map (fun i => (wr ++ w1)[i]?) = ws'.map some)
    (kk : ∀ (H1 : Heap) (locs1 : List Loc), va_P D vwCl ws' H1 → va_D A ws' → va_S A H0 H1 locs1 → W p l e R s m args below meth c H1 locs1 cells slots Q (F0 m (pc + 3) ls (.int r0 :: rest))) : W p l e R s m args below meth c H locs cells slots Q (F0 m pc ls st0) := by
  have hF := va_free (wc := wc) hD hS hA isC hC
  refine va_calli hr hS (fun q _ h => hF q h) hF (fun r u t H1 locs1 ht hvm hw hB hz1 hk1 hS1 => ?_)
  subst hw
  obtain ⟨hP1, hD1⟩ := hB
  rw [ht] at hP1
  obtain ⟨hP2, hD2⟩ := va_join (wr := wr) (w1 := w1) hP hD isC isR hC hR hn hdis hk1 hF hP1 hD1
  exact kk H1 locs1 (hP2.sub pm (fm_of hpm)) (hD2.sub pm hpn hpm) hS1
theorem k_callv (hr : va_Run p l e R s m args below meth c H locs cells slots 0 0 (F0 m pc ls st0) rest (QV D (va_A wc H.size) w1 a) (va_A wc H.size)) (hP : va_P D vwCl ws H) (hD : va_D A ws) (hS : va_S A H0 H locs) (hA : ∀ q, H0.size ≤ q → A q) (isC isR pm : List Nat) (hC : isC.map (fun i => ws[i]?) = wc.map some) (hR : isR.map (fun i => ws[i]?) = wr.map some) (hn : va_nd isR = true) (hdis : ∀ i ∈ isR, i ∉ isC) (hpn : va_nd pm = true) (hpm : pm.map (fun i => (wr ++ w1)[i]?) = ws'.map some)
    (kk : ∀ (H1 : Heap) (locs1 : List Loc), va_P D vwCl ws' H1 → va_D A ws' → va_S A H0 H1 locs1 → W p l e R s m args below meth c H1 locs1 cells slots Q (F0 m (pc + 3) ls rest)) : W p l e R s m args below meth c H locs cells slots Q (F0 m pc ls st0) := by
  have hF := va_free (wc := wc) hD hS hA isC hC
  refine va_callv hr hS (fun q _ h => hF q h) hF (fun u t H1 locs1 ht hvm hw hB hz1 hk1 hS1 => ?_)
  obtain ⟨hP1, hD1⟩ := hB
  rw [ht] at hP1
  obtain ⟨hP2, hD2⟩ := va_join (wr := wr) (w1 := w1) hP hD isC isR hC hR hn hdis hk1 hF hP1 hD1
  exact kk H1 locs1 (hP2.sub pm (fm_of hpm)) (hD2.sub pm hpn hpm) hS1
/-- a call that has no cells of its own: nothing changes -/
theorem k_calli0 (hr : va_Run p l e R s m args below meth c H locs cells slots 0 0 (F0 m pc ls st0) rest (QI D (va_A [] H.size) r0 [] a) (va_A [] H.size)) (hP : va_P D vwCl ws H) (hD : va_D A ws) (hS : va_S A H0 H locs) (hA : ∀ q, H0.size ≤ q → A q)
    (kk : ∀ (H1 : Heap) (locs1 : List Loc), va_P D vwCl ws H1 → va_D A ws → va_S A H0 H1 locs1 → W p l e R s m args below meth c H1 locs1 cells slots Q (F0 m (pc + 3) ls (.int r0 :: rest))) : W p l e R s m args below meth c H locs cells slots Q (F0 m pc ls st0) := by
  have hF := va_free (wc := []) hD hS hA [] rfl
  refine va_calli hr hS (fun q _ h => hF q h) hF (fun r u t H1 locs1 ht hvm hw hB hz1 hk1 hS1 => ?_)
  subst hw
  refine kk H1 locs1 (hP.kept fun k q hq => hk1 q.1 (hP k q hq).lt ?_) hD hS1
  intro h
  rcases h with ⟨k2, e2, h2⟩ | h2
  · simp at h2
  · exact absurd (hP k q hq).lt (by omega)
end OwnRows
theorem tabout6_0 {x : Int32} (h0 : ¬ x = 0) (h1 : ¬ x = 1) (h2 : ¬ x = 2) (h3 : ¬ x = 3) (h4 : ¬ x = 4) (h5 : ¬ x = 5) : x.toInt < 0 ∨ 5 < x.toInt := by
  have q0 := lv_neT (a := 0) h0 (by decide)
  have q1 := lv_neT (a := 1) h1 (by decide)
  have q2 := lv_neT (a := 2) h2 (by decide)
  have q3 := lv_neT (a := 3) h3 (by decide)
  have q4 := lv_neT (a := 4) h4 (by decide)
  have q5 := lv_neT (a := 5) h5 (by decide)
  omega
theorem tabout4_0 {x : Int32} (h0 : ¬ x = 0) (h1 : ¬ x = 1) (h2 : ¬ x = 2) (h3 : ¬ x = 3) : x.toInt < 0 ∨ 3 < x.toInt := by
  have q0 := lv_neT (a := 0) h0 (by decide)
  have q1 := lv_neT (a := 1) h1 (by decide)
  have q2 := lv_neT (a := 2) h2 (by decide)
  have q3 := lv_neT (a := 3) h3 (by decide)
  omega
theorem tabout5_0 {x : Int32} (h0 : ¬ x = 0) (h1 : ¬ x = 1) (h2 : ¬ x = 2) (h3 : ¬ x = 3) (h4 : ¬ x = 4) : x.toInt < 0 ∨ 4 < x.toInt := by
  have q0 := lv_neT (a := 0) h0 (by decide)
  have q1 := lv_neT (a := 1) h1 (by decide)
  have q2 := lv_neT (a := 2) h2 (by decide)
  have q3 := lv_neT (a := 3) h3 (by decide)
  have q4 := lv_neT (a := 4) h4 (by decide)
  omega
abbrev wT (ta ta1 ta2 ta3 : Nat) (cI cZ cB cC : ClassId) (tso : Int32) (tob : Nat → Int32) (tme : Nat → Int32) (twi : Nat → Int32) : va_W := [(ta, .inr (1, [.ref ta1, .ref ta2, .ref ta3, .int tso])), (ta1, .inl (cI, 72, .inl tob)), (ta2, .inl (cI, 12, .inl tme)), (ta3, .inl (cI, 12, .inl twi))]
abbrev wTT (ta ta1 ta2 ta3 ua ua1 ua2 ua3 : Nat) (cI cZ cB cC : ClassId) (tso : Int32) (tob : Nat → Int32) (tme : Nat → Int32) (twi : Nat → Int32) (uso : Int32) (uob : Nat → Int32) (ume : Nat → Int32) (uwi : Nat → Int32) : va_W := [(ta, .inr (1, [.ref ta1, .ref ta2, .ref ta3, .int tso])), (ta1, .inl (cI, 72, .inl tob)), (ta2, .inl (cI, 12, .inl tme)), (ta3, .inl (cI, 12, .inl twi)), (ua, .inr (1, [.ref ua1, .ref ua2, .ref ua3, .int uso])), (ua1, .inl (cI, 72, .inl uob)), (ua2, .inl (cI, 12, .inl ume)), (ua3, .inl (cI, 12, .inl uwi))]
abbrev wR (ra ra1 ra2 ra3 ra4 : Nat) (cI cZ cB cC : ClassId) (rn : Int32) (rki : Nat → Int32) (rta : Nat → Int32) (rpr : Nat → Int32) (rnu : Nat → Int32) : va_W := [(ra, .inr (2, [.ref ra1, .ref ra2, .ref ra3, .ref ra4, .int rn])), (ra1, .inl (cI, 10, .inl rki)), (ra2, .inl (cI, 10, .inl rta)), (ra3, .inl (cI, 10, .inl rpr)), (ra4, .inl (cI, 10, .inl rnu))]
abbrev wRT (ra ra1 ra2 ra3 ra4 ta ta1 ta2 ta3 : Nat) (cI cZ cB cC : ClassId) (rn : Int32) (rki : Nat → Int32) (rta : Nat → Int32) (rpr : Nat → Int32) (rnu : Nat → Int32) (tso : Int32) (tob : Nat → Int32) (tme : Nat → Int32) (twi : Nat → Int32) : va_W := [(ra, .inr (2, [.ref ra1, .ref ra2, .ref ra3, .ref ra4, .int rn])), (ra1, .inl (cI, 10, .inl rki)), (ra2, .inl (cI, 10, .inl rta)), (ra3, .inl (cI, 10, .inl rpr)), (ra4, .inl (cI, 10, .inl rnu)), (ta, .inr (1, [.ref ta1, .ref ta2, .ref ta3, .int tso])), (ta1, .inl (cI, 72, .inl tob)), (ta2, .inl (cI, 12, .inl tme)), (ta3, .inl (cI, 12, .inl twi))]
abbrev wC (ca ca1 ca2 ca3 : Nat) (cI cZ cB cC : ClassId) (cn : Int32) (cpu : Nat → Int32) (cco : Nat → Int32) (cwe : Nat → Int32) : va_W := [(ca, .inr (3, [.ref ca1, .ref ca2, .ref ca3, .int cn])), (ca1, .inl (cZ, 12, .inl cpu)), (ca2, .inl (cI, 12, .inl cco)), (ca3, .inl (cI, 12, .inl cwe))]
abbrev wCT (ca ca1 ca2 ca3 ta ta1 ta2 ta3 : Nat) (cI cZ cB cC : ClassId) (cn : Int32) (cpu : Nat → Int32) (cco : Nat → Int32) (cwe : Nat → Int32) (tso : Int32) (tob : Nat → Int32) (tme : Nat → Int32) (twi : Nat → Int32) : va_W := [(ca, .inr (3, [.ref ca1, .ref ca2, .ref ca3, .int cn])), (ca1, .inl (cZ, 12, .inl cpu)), (ca2, .inl (cI, 12, .inl cco)), (ca3, .inl (cI, 12, .inl cwe)), (ta, .inr (1, [.ref ta1, .ref ta2, .ref ta3, .int tso])), (ta1, .inl (cI, 72, .inl tob)), (ta2, .inl (cI, 12, .inl tme)), (ta3, .inl (cI, 12, .inl twi))]
abbrev wF (fa fa1 fa2 : Nat) (cI cZ cB cC : ClassId) (fn : Int32) (fse : Nat → Int32) (fsu : Nat → Int32) : va_W := [(fa, .inr (4, [.ref fa1, .ref fa2, .int fn])), (fa1, .inl (cI, 30, .inl fse)), (fa2, .inl (cI, 30, .inl fsu))]
abbrev wM (oa tra tra1 tra2 tra3 tia tia1 tia2 tia3 rua rua1 rua2 rua3 rua4 cha cha1 cha2 cha3 foa foa1 foa2 sba : Nat) (cI cZ cB cC : ClassId) (ocs : Int32) (oal : Int32) (olt : Int32) (ols : Int32) (trso : Int32) (trob : Nat → Int32) (trme : Nat → Int32) (trwi : Nat → Int32) (tiso : Int32) (tiob : Nat → Int32) (time : Nat → Int32) (tiwi : Nat → Int32) (run : Int32) (ruki : Nat → Int32) (ruta : Nat → Int32) (rupr : Nat → Int32) (runu : Nat → Int32) (chn : Int32) (chpu : Nat → Int32) (chco : Nat → Int32) (chwe : Nat → Int32) (fon : Int32) (fose : Nat → Int32) (fosu : Nat → Int32) : va_W := [(oa, .inr (0, [.ref tra, .ref tia, .ref rua, .ref cha, .ref foa, .ref sba, .int ocs, .int oal, .int olt, .int ols])), (tra, .inr (1, [.ref tra1, .ref tra2, .ref tra3, .int trso])), (tra1, .inl (cI, 72, .inl trob)), (tra2, .inl (cI, 12, .inl trme)), (tra3, .inl (cI, 12, .inl trwi)), (tia, .inr (1, [.ref tia1, .ref tia2, .ref tia3, .int tiso])), (tia1, .inl (cI, 72, .inl tiob)), (tia2, .inl (cI, 12, .inl time)), (tia3, .inl (cI, 12, .inl tiwi)), (rua, .inr (2, [.ref rua1, .ref rua2, .ref rua3, .ref rua4, .int run])), (rua1, .inl (cI, 10, .inl ruki)), (rua2, .inl (cI, 10, .inl ruta)), (rua3, .inl (cI, 10, .inl rupr)), (rua4, .inl (cI, 10, .inl runu)), (cha, .inr (3, [.ref cha1, .ref cha2, .ref cha3, .int chn])), (cha1, .inl (cZ, 12, .inl chpu)), (cha2, .inl (cI, 12, .inl chco)), (cha3, .inl (cI, 12, .inl chwe)), (foa, .inr (4, [.ref foa1, .ref foa2, .int fon])), (foa1, .inl (cI, 30, .inl fose)), (foa2, .inl (cI, 30, .inl fosu))]
abbrev wA (aa : Nat) (cI cZ cB cC : ClassId) (af : Nat → Int32) : va_W := [(aa, .inl (cI, 12, .inl af))]
abbrev wX (m_a m_there_a m_now_a m_kinds_a m_targets_a m_predicates_a m_numbers_a m_puts_a m_codes_a m_weights_a m_sets_a m_picks_a m_classes_a m_steps_a m_told_a : Nat) (cI cZ cB cC : ClassId) (m_rules : Int32) (m_changes : Int32) (m_mostTries : Int32) (m_tried : Int32) (m_settled : Int32) (m_found : Int32) (m_isCovered : Int32) (m_covered : Int32) (m_toldMany : Int32) (m_there : Nat → Int32) (m_now : Nat → Int32) (m_kinds : Nat → Int32) (m_targets : Nat → Int32) (m_predicates : Nat → Int32) (m_numbers : Nat → Int32) (m_puts : Nat → Int32) (m_codes : Nat → Int32) (m_weights : Nat → Int32) (m_sets : Nat → Int32) (m_picks : Nat → Int32) (m_classes : Nat → Int32) (m_steps : Nat → Int32) (m_told : Nat → Int32) : va_W := [(m_a, .inr (5, [.ref m_there_a, .ref m_now_a, .int m_rules, .ref m_kinds_a, .ref m_targets_a, .ref m_predicates_a, .ref m_numbers_a, .int m_changes, .ref m_puts_a, .ref m_codes_a, .ref m_weights_a, .int m_mostTries, .int m_tried, .int m_settled, .int m_found, .ref m_sets_a, .int m_isCovered, .int m_covered, .ref m_picks_a, .ref m_classes_a, .ref m_steps_a, .ref m_told_a, .int m_toldMany])), (m_there_a, .inl (cZ, 864, .inl m_there)), (m_now_a, .inl (cZ, 864, .inl m_now)), (m_kinds_a, .inl (cI, 10, .inl m_kinds)), (m_targets_a, .inl (cI, 10, .inl m_targets)), (m_predicates_a, .inl (cI, 10, .inl m_predicates)), (m_numbers_a, .inl (cI, 10, .inl m_numbers)), (m_puts_a, .inl (cZ, 12, .inl m_puts)), (m_codes_a, .inl (cI, 12, .inl m_codes)), (m_weights_a, .inl (cI, 12, .inl m_weights)), (m_sets_a, .inl (cI, 31, .inl m_sets)), (m_picks_a, .inl (cI, 12, .inl m_picks)), (m_classes_a, .inl (cZ, 12, .inl m_classes)), (m_steps_a, .inl (cI, 12, .inl m_steps)), (m_told_a, .inl (cI, 400, .inl m_told))]
theorem gkK1_init : GoodIn ALLW wsK1_init := gdC wdt1_30
theorem gkK2_init : GoodIn ALLW wsK2_init := gdC wdt1_50
theorem gkK3_init : GoodIn ALLW wsK3_init := gdC wdt1_77
theorem gkK4_init : GoodIn ALLW wsK4_init := gdC wdt1_98
theorem gkK0_isNode : GoodIn ALLW wsK0_isNode := gdC wdt1_187
theorem gkK0_isPredicate : GoodIn ALLW wsK0_isPredicate := gdC wdt1_190
theorem gkK0_isTriple : GoodIn ALLW wsK0_isTriple := gdC wdt1_184
theorem gkK1_objectsOf : GoodIn ALLW wsK1_objectsOf := gdC wdt1_198
theorem gkK0_hasMember : GoodIn ALLW wsK0_hasMember := gdC wdt1_201
theorem gkK1_has : GoodIn ALLW wsK1_has := gdC wdt1_194
theorem gkK0_codeOf : GoodIn ALLW wsK0_codeOf := gdC wdt1_204
theorem gkK1_alter : GoodIn ALLW wsK1_alter := gdC wdt1_208
theorem gkJ6_fill_aIIV : GoodIn ALLW wsJ6_fill_aIIV := gdC wdt1_215
theorem gkJ2_numberOfTrailingZeros : GoodIn ALLW wsJ2_numberOfTrailingZeros := gdC wdt1_225
theorem gkJ9_min : GoodIn ALLW wsJ9_min := gdC wdt1_229
theorem gkK1_least : GoodIn ALLW wsK1_least := gdC wdt1_222
theorem gkK1_classesOf : GoodIn ALLW wsK1_classesOf := gdC wdt1_219
theorem gkK1_sortIntoClasses : GoodIn ALLW wsK1_sortIntoClasses := gdC wdt1_212
theorem gkK0_putOrTake : GoodIn ALLW wsK0_putOrTake := gdC wdt1_181
theorem gkK0_triple : GoodIn ALLW wsK0_triple := gdC wdt1_177
theorem gkK0_drop : GoodIn ALLW wsK0_drop := gdC wdt1_233
theorem gkK0_fitsKind : GoodIn ALLW wsK0_fitsKind := gdC wdt2_0
theorem gkK2_add : GoodIn ALLW wsK2_add := gdC wdt2_4
theorem gkK0_rule : GoodIn ALLW wsK0_rule := gdC wdt1_237
theorem gkK1_membersOf : GoodIn ALLW wsK1_membersOf := gdC wdt2_16
theorem gkJ2_bitCount : GoodIn ALLW wsJ2_bitCount := gdC wdt2_25
theorem gkK2_holds : GoodIn ALLW wsK2_holds := gdC wdt2_21
theorem gkK2_failing : GoodIn ALLW wsK2_failing := gdC wdt2_12
theorem gkK0_results : GoodIn ALLW wsK0_results := gdC wdt2_8
theorem gkK0_nthMember : GoodIn ALLW wsK0_nthMember := gdC wdt2_40
theorem gkK0_nthResult : GoodIn ALLW wsK0_nthResult := gdC wdt2_37
theorem gkK0_result : GoodIn ALLW wsK0_result := gdC wdt2_33
theorem gkK1_isMember : GoodIn ALLW wsK1_isMember := gdC wdt2_49
theorem gkK0_isOf : GoodIn ALLW wsK0_isOf := gdC wdt2_45
theorem gkK1_leadingInto : GoodIn ALLW wsK1_leadingInto := gdC wdt2_65
theorem gkK1_fewestBelows : GoodIn ALLW wsK1_fewestBelows := gdC wdt2_61
theorem gkK1_nthOfReason : GoodIn ALLW wsK1_nthOfReason := gdC wdt2_57
theorem gkK0_reason : GoodIn ALLW wsK0_reason := gdC wdt2_53
theorem gkK3_add : GoodIn ALLW wsK3_add := gdC wdt2_74
theorem gkK0_change : GoodIn ALLW wsK0_change := gdC wdt2_70
theorem gkK2_has : GoodIn ALLW wsK2_has := gdC wdt2_82
theorem gkK2_fails : GoodIn ALLW wsK2_fails := gdC wdt2_86
theorem gkK0_offer : GoodIn ALLW wsK0_offer := gdC wdt2_91
theorem gkK0_offerAbout : GoodIn ALLW wsK0_offerAbout := gdC wdt2_95
theorem gkK0_suggest : GoodIn ALLW wsK0_suggest := gdC wdt2_78
theorem gkK3_forget : GoodIn ALLW wsK3_forget := gdC wdt2_103
theorem gkK4_forget : GoodIn ALLW wsK4_forget := gdC wdt2_107
theorem gkK0_clear : GoodIn ALLW wsK0_clear := gdC wdt2_99
theorem gkK0_tries : GoodIn ALLW wsK0_tries := gdC wdt2_111
theorem gkJ2_numberOfLeadingZeros : GoodIn ALLW wsJ2_numberOfLeadingZeros := gdC wdt2_126
theorem gkK0_nextSet : GoodIn ALLW wsK0_nextSet := gdC wdt2_123
theorem gkK4_hasPartOf : GoodIn ALLW wsK4_hasPartOf := gdC wdt2_130
theorem gkK1_copyFrom : GoodIn ALLW wsK1_copyFrom := gdC wdt2_138
theorem gkK3_doAll : GoodIn ALLW wsK3_doAll := gdC wdt2_145
theorem gkK0_tryOut : GoodIn ALLW wsK0_tryOut := gdC wdt2_134
theorem gkK3_weightOf : GoodIn ALLW wsK3_weightOf := gdC wdt2_151
theorem gkK4_add : GoodIn ALLW wsK4_add := gdC wdt2_155
theorem gkK0_findSets : GoodIn ALLW wsK0_findSets := gdC wdt2_120
theorem gkK0_find : GoodIn ALLW wsK0_find := gdC wdt2_115
theorem gkK0_settled : GoodIn ALLW wsK0_settled := gdC wdt2_159
theorem gkK0_tried : GoodIn ALLW wsK0_tried := gdC wdt2_163
theorem gkK4_at : GoodIn ALLW wsK4_at := gdC wdt2_171
theorem gkK0_set : GoodIn ALLW wsK0_set := gdC wdt2_167
theorem gkK0_weight : GoodIn ALLW wsK0_weight := gdC wdt2_175
theorem gkK0_breaks : GoodIn ALLW wsK0_breaks := gdC wdt2_179
theorem gkK0_apply : GoodIn ALLW wsK0_apply := gdC wdt2_183
theorem gkK0_putsAllRight : GoodIn ALLW wsK0_putsAllRight := gdC wdt2_196
theorem gkK0_lightestCover : GoodIn ALLW wsK0_lightestCover := gdC wdt2_192
theorem gkK0_cover : GoodIn ALLW wsK0_cover := gdC wdt2_188
theorem gkK0_covered : GoodIn ALLW wsK0_covered := gdC wdt2_200
theorem gkJ9_max : GoodIn ALLW wsJ9_max := gdC wdt2_225
theorem gkJ2_stringSize : GoodIn ALLW wsJ2_stringSize := gdC wdt3_125
theorem gkJ4_canEncode : GoodIn ALLW wsJ4_canEncode := gdC wdt3_150
theorem gkK5_init : GoodIn ALLW wsK5_init := gdC wdt3_184
theorem gkK5_in : GoodIn ALLW wsK5_in := gdC wdt4_25
theorem gkK5_isTriple : GoodIn ALLW wsK5_isTriple := gdC wdt4_22
theorem gkK5_codeOf : GoodIn ALLW wsK5_codeOf := gdC wdt4_28
theorem gkK5_triple : GoodIn ALLW wsK5_triple := gdC wdt4_19
theorem gkK5_drop : GoodIn ALLW wsK5_drop := gdC wdt4_32
theorem gkK5_rule : GoodIn ALLW wsK5_rule := gdC wdt4_36
theorem gkK5_begin : GoodIn ALLW wsK5_begin := gdC wdt4_44
theorem gkK5_isOfNow : GoodIn ALLW wsK5_isOfNow := gdC wdt4_56
theorem gkK5_holds : GoodIn ALLW wsK5_holds := gdC wdt4_60
theorem gkK5_isResult : GoodIn ALLW wsK5_isResult := gdC wdt4_52
theorem gkK5_resultsNow : GoodIn ALLW wsK5_resultsNow := gdC wdt4_48
theorem gkK5_results : GoodIn ALLW wsK5_results := gdC wdt4_40
theorem gkK5_result : GoodIn ALLW wsK5_result := gdC wdt4_64
theorem gkK5_isOf : GoodIn ALLW wsK5_isOf := gdC wdt4_68
theorem gkK5_measure : GoodIn ALLW wsK5_measure := gdC wdt4_76
theorem gkK5_reason : GoodIn ALLW wsK5_reason := gdC wdt4_72
theorem gkK5_isThere : GoodIn ALLW wsK5_isThere := gdC wdt4_84
theorem gkK5_enter : GoodIn ALLW wsK5_enter := gdC wdt4_88
theorem gkK5_change : GoodIn ALLW wsK5_change := gdC wdt4_80
theorem gkK5_isPair : GoodIn ALLW wsK5_isPair := gdC wdt4_96
theorem gkK5_offer : GoodIn ALLW wsK5_offer := gdC wdt4_100
theorem gkK5_suggest : GoodIn ALLW wsK5_suggest := gdC wdt4_92
theorem gkK5_clear : GoodIn ALLW wsK5_clear := gdC wdt4_104
theorem gkK5_tries : GoodIn ALLW wsK5_tries := gdC wdt4_108
theorem gkK5_first : GoodIn ALLW wsK5_first := gdC wdt4_116
theorem gkK5_setOf : GoodIn ALLW wsK5_setOf := gdC wdt4_120
theorem gkK5_hasOneWithin : GoodIn ALLW wsK5_hasOneWithin := gdC wdt4_124
theorem gkK5_look : GoodIn ALLW wsK5_look := gdC wdt4_128
theorem gkK5_next : GoodIn ALLW wsK5_next := gdC wdt4_132
theorem gkK5_weightOf : GoodIn ALLW wsK5_weightOf := gdC wdt4_140
theorem gkK5_sizeOf : GoodIn ALLW wsK5_sizeOf := gdC wdt4_143
theorem gkK5_sort : GoodIn ALLW wsK5_sort := gdC wdt4_136
theorem gkK5_find : GoodIn ALLW wsK5_find := gdC wdt4_112
theorem gkK5_weigh : GoodIn ALLW wsK5_weigh := gdC wdt4_151
theorem gkK5_cover : GoodIn ALLW wsK5_cover := gdC wdt4_147
theorem gkK5_settled : GoodIn ALLW wsK5_settled := gdC wdt4_155
theorem gkK5_tried : GoodIn ALLW wsK5_tried := gdC wdt4_159
theorem gkK5_isFound : GoodIn ALLW wsK5_isFound := gdC wdt4_167
theorem gkK5_member : GoodIn ALLW wsK5_member := gdC wdt4_170
theorem gkK5_set : GoodIn ALLW wsK5_set := gdC wdt4_163
theorem gkK5_weight : GoodIn ALLW wsK5_weight := gdC wdt4_174
theorem gkK5_breaks : GoodIn ALLW wsK5_breaks := gdC wdt4_178
theorem gkK5_apply : GoodIn ALLW wsK5_apply := gdC wdt4_182
theorem gkK5_covered : GoodIn ALLW wsK5_covered := gdC wdt4_186
theorem gkK5_tell : GoodIn ALLW wsK5_tell := gdC wdt4_194
theorem gkK5_tellNumber : GoodIn ALLW wsK5_tellNumber := gdC wdt4_198
theorem gkK5_sentence : GoodIn ALLW wsK5_sentence := gdC wdt4_190
theorem gkK5_letter : GoodIn ALLW wsK5_letter := gdC wdt4_202
end
