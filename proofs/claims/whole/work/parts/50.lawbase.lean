/-! THE CLAIM OUT OF ONE WALK OF THE LAW'S BODY. Your part is whole_start (and what it stands on); all else here is the same for every law, but numbers. -/
def R_law : String := "ReportCausesLaw"
def lw_P (b : Addr) (xs : List Int32) (args : Array Value) (s : State) : Prop := args = #[.ref b] ∧ s.IntsAt b xs ∧ xs.length ≤ 3072 ∧ (Jvm.Cond.and given_1 narrow_1).before args s = true
def lw_Q (_ : Array Value) (s : State) (o : Outcome) (t : State) : Prop := o = .returned (some (.int 1)) ∧ Framed s o t [] 600000 7302250
def lw_Z (below : List Frame) (a : Array Value) (s : State) : State → Prop := fun t => ∃ o, t.status = .running ∧ Ended t below o ∧ lw_Q a s o t
/-- the law's own end, with 1 on the stack, nothing written that was there before, its room as the claim has it -/
theorem lw_ret {p : Program} {l : Launch} {e : Env} {s : State} {m : MethodId} {below : List Frame} {meth : Method} {c : Code} {b : Nat} (hx : p.tables.exec = Jvm.exec) (hb : c.code = code) (hr : meth.sig.returnType = ret) (hlocks : meth.locks = false) {pc : Nat} {H : Heap} {ls : Array Slot} (hdg : decode code pc = .ok (.ireturn, 1)) : W p l e room_1 s m #[Value.ref b] below meth c H [] 600000 7302250 (lw_Z below #[Value.ref b] s) (F0 m pc ls [.int 1]) := by
  intro T hT X
  obtain ⟨fs, hret, hrun, hended, hW, hframe⟩ := X.leave (v := some (.int 1)) (hlocks := hlocks) (fun h => by rw [hr] at h; cases h)
  have hmeth' : T.vm.method? m = some meth := X.method'
  refine ⟨T.setFrames fs, ?_, .returned (some (.int 1)), hrun, hended, rfl, ⟨_, rfl⟩, hW, hframe⟩
  jvm_step X.here [X.here.top, hx, hb, hdg, hmeth', hr, ret, narrow_b1]
  (try refine ⟨rfl, ?_⟩); (try refine ⟨rfl, ?_⟩)
  first | (intro acts; rw [hret _ acts rfl rfl rfl]) | rw [hret _ _ rfl rfl rfl]
  exact Steps.refl _
/-- what holds at the law's entry: the machine, the code, the tables' words (any of lw_tbl by 'hts w (by decide +kernel)'), the script of L ints xs at the cell b, what the Statement gives of the start (any of its parts by flat_of_before) -/
def lw_At (p : Program) (s : State) (m : MethodId) (meth : Method) (c : Code) (b L : Nat) (xs : Nat → Int32) : Prop :=
  p.tables.exec = Jvm.exec ∧ c.code = code ∧ meth.sig.returnType = ret ∧ c.maxLocals = 4 ∧ s.vm.findClass R_law = some m.cls ∧ (∀ w ∈ lw_tbl, w.before #[Value.ref b] s = true) ∧ va_X b L xs s s.heap ∧ b < s.heap.size ∧ meth.locks = false ∧ (Jvm.Cond.and given_1 narrow_1).before #[Value.ref b] s = true
theorem wdt1_174 : Cond.methodLink "ReportCausesLaw" 13 yK0_triple ∈ ALLW := wt1 (List.mem_of_getElem? (i := 174) (by decide +kernel)) rfl
theorem wdt1_175 : Cond.instanceMethod yK0_triple ∈ ALLW := wt1 (List.mem_of_getElem? (i := 175) (by decide +kernel)) rfl
theorem wdt1_176 : Cond.selects "ReportCauses" yK0_triple yK0_triple ∈ ALLW := wt1 (List.mem_of_getElem? (i := 176) (by decide +kernel)) rfl
theorem wdt4_16 : Cond.methodLink "ReportCausesLaw" 17 yK5_triple ∈ ALLW := wt4 (List.mem_of_getElem? (i := 16) (by decide +kernel)) rfl
theorem wdt4_17 : Cond.instanceMethod yK5_triple ∈ ALLW := wt4 (List.mem_of_getElem? (i := 17) (by decide +kernel)) rfl
theorem wdt4_18 : Cond.selects "ReportCausesModel" yK5_triple yK5_triple ∈ ALLW := wt4 (List.mem_of_getElem? (i := 18) (by decide +kernel)) rfl
theorem wdt1_230 : Cond.methodLink "ReportCausesLaw" 18 yK0_drop ∈ ALLW := wt1 (List.mem_of_getElem? (i := 230) (by decide +kernel)) rfl
theorem wdt1_231 : Cond.instanceMethod yK0_drop ∈ ALLW := wt1 (List.mem_of_getElem? (i := 231) (by decide +kernel)) rfl
theorem wdt1_232 : Cond.selects "ReportCauses" yK0_drop yK0_drop ∈ ALLW := wt1 (List.mem_of_getElem? (i := 232) (by decide +kernel)) rfl
theorem wdt4_29 : Cond.methodLink "ReportCausesLaw" 21 yK5_drop ∈ ALLW := wt4 (List.mem_of_getElem? (i := 29) (by decide +kernel)) rfl
theorem wdt4_30 : Cond.instanceMethod yK5_drop ∈ ALLW := wt4 (List.mem_of_getElem? (i := 30) (by decide +kernel)) rfl
theorem wdt4_31 : Cond.selects "ReportCausesModel" yK5_drop yK5_drop ∈ ALLW := wt4 (List.mem_of_getElem? (i := 31) (by decide +kernel)) rfl
theorem wdt1_234 : Cond.methodLink "ReportCausesLaw" 22 yK0_rule ∈ ALLW := wt1 (List.mem_of_getElem? (i := 234) (by decide +kernel)) rfl
theorem wdt1_235 : Cond.instanceMethod yK0_rule ∈ ALLW := wt1 (List.mem_of_getElem? (i := 235) (by decide +kernel)) rfl
theorem wdt1_236 : Cond.selects "ReportCauses" yK0_rule yK0_rule ∈ ALLW := wt1 (List.mem_of_getElem? (i := 236) (by decide +kernel)) rfl
theorem wdt4_33 : Cond.methodLink "ReportCausesLaw" 26 yK5_rule ∈ ALLW := wt4 (List.mem_of_getElem? (i := 33) (by decide +kernel)) rfl
theorem wdt4_34 : Cond.instanceMethod yK5_rule ∈ ALLW := wt4 (List.mem_of_getElem? (i := 34) (by decide +kernel)) rfl
theorem wdt4_35 : Cond.selects "ReportCausesModel" yK5_rule yK5_rule ∈ ALLW := wt4 (List.mem_of_getElem? (i := 35) (by decide +kernel)) rfl
theorem wdt2_5 : Cond.methodLink "ReportCausesLaw" 27 yK0_results ∈ ALLW := wt2 (List.mem_of_getElem? (i := 5) (by decide +kernel)) rfl
theorem wdt4_37 : Cond.methodLink "ReportCausesLaw" 31 yK5_results ∈ ALLW := wt4 (List.mem_of_getElem? (i := 37) (by decide +kernel)) rfl
theorem wdt4_38 : Cond.instanceMethod yK5_results ∈ ALLW := wt4 (List.mem_of_getElem? (i := 38) (by decide +kernel)) rfl
theorem wdt4_39 : Cond.selects "ReportCausesModel" yK5_results yK5_results ∈ ALLW := wt4 (List.mem_of_getElem? (i := 39) (by decide +kernel)) rfl
theorem wdt2_30 : Cond.methodLink "ReportCausesLaw" 32 yK0_result ∈ ALLW := wt2 (List.mem_of_getElem? (i := 30) (by decide +kernel)) rfl
theorem wdt2_31 : Cond.instanceMethod yK0_result ∈ ALLW := wt2 (List.mem_of_getElem? (i := 31) (by decide +kernel)) rfl
theorem wdt2_32 : Cond.selects "ReportCauses" yK0_result yK0_result ∈ ALLW := wt2 (List.mem_of_getElem? (i := 32) (by decide +kernel)) rfl
theorem wdt4_61 : Cond.methodLink "ReportCausesLaw" 36 yK5_result ∈ ALLW := wt4 (List.mem_of_getElem? (i := 61) (by decide +kernel)) rfl
theorem wdt4_62 : Cond.instanceMethod yK5_result ∈ ALLW := wt4 (List.mem_of_getElem? (i := 62) (by decide +kernel)) rfl
theorem wdt4_63 : Cond.selects "ReportCausesModel" yK5_result yK5_result ∈ ALLW := wt4 (List.mem_of_getElem? (i := 63) (by decide +kernel)) rfl
theorem wdt2_42 : Cond.methodLink "ReportCausesLaw" 37 yK0_isOf ∈ ALLW := wt2 (List.mem_of_getElem? (i := 42) (by decide +kernel)) rfl
theorem wdt2_43 : Cond.instanceMethod yK0_isOf ∈ ALLW := wt2 (List.mem_of_getElem? (i := 43) (by decide +kernel)) rfl
theorem wdt2_44 : Cond.selects "ReportCauses" yK0_isOf yK0_isOf ∈ ALLW := wt2 (List.mem_of_getElem? (i := 44) (by decide +kernel)) rfl
theorem wdt4_65 : Cond.methodLink "ReportCausesLaw" 41 yK5_isOf ∈ ALLW := wt4 (List.mem_of_getElem? (i := 65) (by decide +kernel)) rfl
theorem wdt4_66 : Cond.instanceMethod yK5_isOf ∈ ALLW := wt4 (List.mem_of_getElem? (i := 66) (by decide +kernel)) rfl
theorem wdt4_67 : Cond.selects "ReportCausesModel" yK5_isOf yK5_isOf ∈ ALLW := wt4 (List.mem_of_getElem? (i := 67) (by decide +kernel)) rfl
theorem wdt2_50 : Cond.methodLink "ReportCausesLaw" 42 yK0_reason ∈ ALLW := wt2 (List.mem_of_getElem? (i := 50) (by decide +kernel)) rfl
theorem wdt2_51 : Cond.instanceMethod yK0_reason ∈ ALLW := wt2 (List.mem_of_getElem? (i := 51) (by decide +kernel)) rfl
theorem wdt2_52 : Cond.selects "ReportCauses" yK0_reason yK0_reason ∈ ALLW := wt2 (List.mem_of_getElem? (i := 52) (by decide +kernel)) rfl
theorem wdt4_69 : Cond.methodLink "ReportCausesLaw" 45 yK5_reason ∈ ALLW := wt4 (List.mem_of_getElem? (i := 69) (by decide +kernel)) rfl
theorem wdt4_70 : Cond.instanceMethod yK5_reason ∈ ALLW := wt4 (List.mem_of_getElem? (i := 70) (by decide +kernel)) rfl
theorem wdt4_71 : Cond.selects "ReportCausesModel" yK5_reason yK5_reason ∈ ALLW := wt4 (List.mem_of_getElem? (i := 71) (by decide +kernel)) rfl
theorem wdt2_67 : Cond.methodLink "ReportCausesLaw" 46 yK0_change ∈ ALLW := wt2 (List.mem_of_getElem? (i := 67) (by decide +kernel)) rfl
theorem wdt2_68 : Cond.instanceMethod yK0_change ∈ ALLW := wt2 (List.mem_of_getElem? (i := 68) (by decide +kernel)) rfl
theorem wdt2_69 : Cond.selects "ReportCauses" yK0_change yK0_change ∈ ALLW := wt2 (List.mem_of_getElem? (i := 69) (by decide +kernel)) rfl
theorem wdt4_77 : Cond.methodLink "ReportCausesLaw" 50 yK5_change ∈ ALLW := wt4 (List.mem_of_getElem? (i := 77) (by decide +kernel)) rfl
theorem wdt4_78 : Cond.instanceMethod yK5_change ∈ ALLW := wt4 (List.mem_of_getElem? (i := 78) (by decide +kernel)) rfl
theorem wdt4_79 : Cond.selects "ReportCausesModel" yK5_change yK5_change ∈ ALLW := wt4 (List.mem_of_getElem? (i := 79) (by decide +kernel)) rfl
theorem wdt2_75 : Cond.methodLink "ReportCausesLaw" 51 yK0_suggest ∈ ALLW := wt2 (List.mem_of_getElem? (i := 75) (by decide +kernel)) rfl
theorem wdt2_76 : Cond.instanceMethod yK0_suggest ∈ ALLW := wt2 (List.mem_of_getElem? (i := 76) (by decide +kernel)) rfl
theorem wdt2_77 : Cond.selects "ReportCauses" yK0_suggest yK0_suggest ∈ ALLW := wt2 (List.mem_of_getElem? (i := 77) (by decide +kernel)) rfl
theorem wdt4_89 : Cond.methodLink "ReportCausesLaw" 54 yK5_suggest ∈ ALLW := wt4 (List.mem_of_getElem? (i := 89) (by decide +kernel)) rfl
theorem wdt4_90 : Cond.instanceMethod yK5_suggest ∈ ALLW := wt4 (List.mem_of_getElem? (i := 90) (by decide +kernel)) rfl
theorem wdt4_91 : Cond.selects "ReportCausesModel" yK5_suggest yK5_suggest ∈ ALLW := wt4 (List.mem_of_getElem? (i := 91) (by decide +kernel)) rfl
theorem wdt2_96 : Cond.methodLink "ReportCausesLaw" 55 yK0_clear ∈ ALLW := wt2 (List.mem_of_getElem? (i := 96) (by decide +kernel)) rfl
theorem wdt2_97 : Cond.instanceMethod yK0_clear ∈ ALLW := wt2 (List.mem_of_getElem? (i := 97) (by decide +kernel)) rfl
theorem wdt2_98 : Cond.selects "ReportCauses" yK0_clear yK0_clear ∈ ALLW := wt2 (List.mem_of_getElem? (i := 98) (by decide +kernel)) rfl
theorem wdt4_101 : Cond.methodLink "ReportCausesLaw" 58 yK5_clear ∈ ALLW := wt4 (List.mem_of_getElem? (i := 101) (by decide +kernel)) rfl
theorem wdt4_102 : Cond.instanceMethod yK5_clear ∈ ALLW := wt4 (List.mem_of_getElem? (i := 102) (by decide +kernel)) rfl
theorem wdt4_103 : Cond.selects "ReportCausesModel" yK5_clear yK5_clear ∈ ALLW := wt4 (List.mem_of_getElem? (i := 103) (by decide +kernel)) rfl
theorem wdt2_108 : Cond.methodLink "ReportCausesLaw" 59 yK0_tries ∈ ALLW := wt2 (List.mem_of_getElem? (i := 108) (by decide +kernel)) rfl
theorem wdt2_109 : Cond.instanceMethod yK0_tries ∈ ALLW := wt2 (List.mem_of_getElem? (i := 109) (by decide +kernel)) rfl
theorem wdt2_110 : Cond.selects "ReportCauses" yK0_tries yK0_tries ∈ ALLW := wt2 (List.mem_of_getElem? (i := 110) (by decide +kernel)) rfl
theorem wdt4_105 : Cond.methodLink "ReportCausesLaw" 62 yK5_tries ∈ ALLW := wt4 (List.mem_of_getElem? (i := 105) (by decide +kernel)) rfl
theorem wdt4_106 : Cond.instanceMethod yK5_tries ∈ ALLW := wt4 (List.mem_of_getElem? (i := 106) (by decide +kernel)) rfl
theorem wdt4_107 : Cond.selects "ReportCausesModel" yK5_tries yK5_tries ∈ ALLW := wt4 (List.mem_of_getElem? (i := 107) (by decide +kernel)) rfl
theorem wdt2_112 : Cond.methodLink "ReportCausesLaw" 63 yK0_find ∈ ALLW := wt2 (List.mem_of_getElem? (i := 112) (by decide +kernel)) rfl
theorem wdt2_113 : Cond.instanceMethod yK0_find ∈ ALLW := wt2 (List.mem_of_getElem? (i := 113) (by decide +kernel)) rfl
theorem wdt2_114 : Cond.selects "ReportCauses" yK0_find yK0_find ∈ ALLW := wt2 (List.mem_of_getElem? (i := 114) (by decide +kernel)) rfl
theorem wdt4_109 : Cond.methodLink "ReportCausesLaw" 66 yK5_find ∈ ALLW := wt4 (List.mem_of_getElem? (i := 109) (by decide +kernel)) rfl
theorem wdt4_110 : Cond.instanceMethod yK5_find ∈ ALLW := wt4 (List.mem_of_getElem? (i := 110) (by decide +kernel)) rfl
theorem wdt4_111 : Cond.selects "ReportCausesModel" yK5_find yK5_find ∈ ALLW := wt4 (List.mem_of_getElem? (i := 111) (by decide +kernel)) rfl
theorem wdt2_156 : Cond.methodLink "ReportCausesLaw" 67 yK0_settled ∈ ALLW := wt2 (List.mem_of_getElem? (i := 156) (by decide +kernel)) rfl
theorem wdt2_157 : Cond.instanceMethod yK0_settled ∈ ALLW := wt2 (List.mem_of_getElem? (i := 157) (by decide +kernel)) rfl
theorem wdt2_158 : Cond.selects "ReportCauses" yK0_settled yK0_settled ∈ ALLW := wt2 (List.mem_of_getElem? (i := 158) (by decide +kernel)) rfl
theorem wdt4_152 : Cond.methodLink "ReportCausesLaw" 71 yK5_settled ∈ ALLW := wt4 (List.mem_of_getElem? (i := 152) (by decide +kernel)) rfl
theorem wdt4_153 : Cond.instanceMethod yK5_settled ∈ ALLW := wt4 (List.mem_of_getElem? (i := 153) (by decide +kernel)) rfl
theorem wdt4_154 : Cond.selects "ReportCausesModel" yK5_settled yK5_settled ∈ ALLW := wt4 (List.mem_of_getElem? (i := 154) (by decide +kernel)) rfl
theorem wdt2_160 : Cond.methodLink "ReportCausesLaw" 72 yK0_tried ∈ ALLW := wt2 (List.mem_of_getElem? (i := 160) (by decide +kernel)) rfl
theorem wdt2_161 : Cond.instanceMethod yK0_tried ∈ ALLW := wt2 (List.mem_of_getElem? (i := 161) (by decide +kernel)) rfl
theorem wdt2_162 : Cond.selects "ReportCauses" yK0_tried yK0_tried ∈ ALLW := wt2 (List.mem_of_getElem? (i := 162) (by decide +kernel)) rfl
theorem wdt4_156 : Cond.methodLink "ReportCausesLaw" 75 yK5_tried ∈ ALLW := wt4 (List.mem_of_getElem? (i := 156) (by decide +kernel)) rfl
theorem wdt4_157 : Cond.instanceMethod yK5_tried ∈ ALLW := wt4 (List.mem_of_getElem? (i := 157) (by decide +kernel)) rfl
theorem wdt4_158 : Cond.selects "ReportCausesModel" yK5_tried yK5_tried ∈ ALLW := wt4 (List.mem_of_getElem? (i := 158) (by decide +kernel)) rfl
theorem wdt2_164 : Cond.methodLink "ReportCausesLaw" 76 yK0_set ∈ ALLW := wt2 (List.mem_of_getElem? (i := 164) (by decide +kernel)) rfl
theorem wdt2_165 : Cond.instanceMethod yK0_set ∈ ALLW := wt2 (List.mem_of_getElem? (i := 165) (by decide +kernel)) rfl
theorem wdt2_166 : Cond.selects "ReportCauses" yK0_set yK0_set ∈ ALLW := wt2 (List.mem_of_getElem? (i := 166) (by decide +kernel)) rfl
theorem wdt4_160 : Cond.methodLink "ReportCausesLaw" 79 yK5_set ∈ ALLW := wt4 (List.mem_of_getElem? (i := 160) (by decide +kernel)) rfl
theorem wdt4_161 : Cond.instanceMethod yK5_set ∈ ALLW := wt4 (List.mem_of_getElem? (i := 161) (by decide +kernel)) rfl
theorem wdt4_162 : Cond.selects "ReportCausesModel" yK5_set yK5_set ∈ ALLW := wt4 (List.mem_of_getElem? (i := 162) (by decide +kernel)) rfl
theorem wdt2_172 : Cond.methodLink "ReportCausesLaw" 80 yK0_weight ∈ ALLW := wt2 (List.mem_of_getElem? (i := 172) (by decide +kernel)) rfl
theorem wdt2_173 : Cond.instanceMethod yK0_weight ∈ ALLW := wt2 (List.mem_of_getElem? (i := 173) (by decide +kernel)) rfl
theorem wdt2_174 : Cond.selects "ReportCauses" yK0_weight yK0_weight ∈ ALLW := wt2 (List.mem_of_getElem? (i := 174) (by decide +kernel)) rfl
theorem wdt4_171 : Cond.methodLink "ReportCausesLaw" 83 yK5_weight ∈ ALLW := wt4 (List.mem_of_getElem? (i := 171) (by decide +kernel)) rfl
theorem wdt4_172 : Cond.instanceMethod yK5_weight ∈ ALLW := wt4 (List.mem_of_getElem? (i := 172) (by decide +kernel)) rfl
theorem wdt4_173 : Cond.selects "ReportCausesModel" yK5_weight yK5_weight ∈ ALLW := wt4 (List.mem_of_getElem? (i := 173) (by decide +kernel)) rfl
theorem wdt2_176 : Cond.methodLink "ReportCausesLaw" 84 yK0_breaks ∈ ALLW := wt2 (List.mem_of_getElem? (i := 176) (by decide +kernel)) rfl
theorem wdt2_177 : Cond.instanceMethod yK0_breaks ∈ ALLW := wt2 (List.mem_of_getElem? (i := 177) (by decide +kernel)) rfl
theorem wdt2_178 : Cond.selects "ReportCauses" yK0_breaks yK0_breaks ∈ ALLW := wt2 (List.mem_of_getElem? (i := 178) (by decide +kernel)) rfl
theorem wdt4_175 : Cond.methodLink "ReportCausesLaw" 87 yK5_breaks ∈ ALLW := wt4 (List.mem_of_getElem? (i := 175) (by decide +kernel)) rfl
theorem wdt4_176 : Cond.instanceMethod yK5_breaks ∈ ALLW := wt4 (List.mem_of_getElem? (i := 176) (by decide +kernel)) rfl
theorem wdt4_177 : Cond.selects "ReportCausesModel" yK5_breaks yK5_breaks ∈ ALLW := wt4 (List.mem_of_getElem? (i := 177) (by decide +kernel)) rfl
theorem wdt2_180 : Cond.methodLink "ReportCausesLaw" 88 yK0_apply ∈ ALLW := wt2 (List.mem_of_getElem? (i := 180) (by decide +kernel)) rfl
theorem wdt2_181 : Cond.instanceMethod yK0_apply ∈ ALLW := wt2 (List.mem_of_getElem? (i := 181) (by decide +kernel)) rfl
theorem wdt2_182 : Cond.selects "ReportCauses" yK0_apply yK0_apply ∈ ALLW := wt2 (List.mem_of_getElem? (i := 182) (by decide +kernel)) rfl
theorem wdt4_179 : Cond.methodLink "ReportCausesLaw" 91 yK5_apply ∈ ALLW := wt4 (List.mem_of_getElem? (i := 179) (by decide +kernel)) rfl
theorem wdt4_180 : Cond.instanceMethod yK5_apply ∈ ALLW := wt4 (List.mem_of_getElem? (i := 180) (by decide +kernel)) rfl
theorem wdt4_181 : Cond.selects "ReportCausesModel" yK5_apply yK5_apply ∈ ALLW := wt4 (List.mem_of_getElem? (i := 181) (by decide +kernel)) rfl
theorem wdt2_185 : Cond.methodLink "ReportCausesLaw" 92 yK0_cover ∈ ALLW := wt2 (List.mem_of_getElem? (i := 185) (by decide +kernel)) rfl
theorem wdt2_186 : Cond.instanceMethod yK0_cover ∈ ALLW := wt2 (List.mem_of_getElem? (i := 186) (by decide +kernel)) rfl
theorem wdt2_187 : Cond.selects "ReportCauses" yK0_cover yK0_cover ∈ ALLW := wt2 (List.mem_of_getElem? (i := 187) (by decide +kernel)) rfl
theorem wdt4_144 : Cond.methodLink "ReportCausesLaw" 95 yK5_cover ∈ ALLW := wt4 (List.mem_of_getElem? (i := 144) (by decide +kernel)) rfl
theorem wdt4_145 : Cond.instanceMethod yK5_cover ∈ ALLW := wt4 (List.mem_of_getElem? (i := 145) (by decide +kernel)) rfl
theorem wdt4_146 : Cond.selects "ReportCausesModel" yK5_cover yK5_cover ∈ ALLW := wt4 (List.mem_of_getElem? (i := 146) (by decide +kernel)) rfl
theorem wdt2_197 : Cond.methodLink "ReportCausesLaw" 96 yK0_covered ∈ ALLW := wt2 (List.mem_of_getElem? (i := 197) (by decide +kernel)) rfl
theorem wdt2_198 : Cond.instanceMethod yK0_covered ∈ ALLW := wt2 (List.mem_of_getElem? (i := 198) (by decide +kernel)) rfl
theorem wdt2_199 : Cond.selects "ReportCauses" yK0_covered yK0_covered ∈ ALLW := wt2 (List.mem_of_getElem? (i := 199) (by decide +kernel)) rfl
theorem wdt4_183 : Cond.methodLink "ReportCausesLaw" 99 yK5_covered ∈ ALLW := wt4 (List.mem_of_getElem? (i := 183) (by decide +kernel)) rfl
theorem wdt4_184 : Cond.instanceMethod yK5_covered ∈ ALLW := wt4 (List.mem_of_getElem? (i := 184) (by decide +kernel)) rfl
theorem wdt4_185 : Cond.selects "ReportCausesModel" yK5_covered yK5_covered ∈ ALLW := wt4 (List.mem_of_getElem? (i := 185) (by decide +kernel)) rfl
theorem wdt2_201 : Cond.methodLink "ReportCausesLaw" 100 yK0_sentence ∈ ALLW := wt2 (List.mem_of_getElem? (i := 201) (by decide +kernel)) rfl
theorem wdt2_202 : Cond.instanceMethod yK0_sentence ∈ ALLW := wt2 (List.mem_of_getElem? (i := 202) (by decide +kernel)) rfl
theorem wdt2_203 : Cond.selects "ReportCauses" yK0_sentence yK0_sentence ∈ ALLW := wt2 (List.mem_of_getElem? (i := 203) (by decide +kernel)) rfl
theorem wdt4_187 : Cond.methodLink "ReportCausesLaw" 103 yK5_sentence ∈ ALLW := wt4 (List.mem_of_getElem? (i := 187) (by decide +kernel)) rfl
theorem wdt4_188 : Cond.instanceMethod yK5_sentence ∈ ALLW := wt4 (List.mem_of_getElem? (i := 188) (by decide +kernel)) rfl
theorem wdt4_189 : Cond.selects "ReportCausesModel" yK5_sentence yK5_sentence ∈ ALLW := wt4 (List.mem_of_getElem? (i := 189) (by decide +kernel)) rfl
theorem wdt3_164 : Cond.methodLink "ReportCausesLaw" 104 yK0_letter ∈ ALLW := wt3 (List.mem_of_getElem? (i := 164) (by decide +kernel)) rfl
theorem wdt3_165 : Cond.instanceMethod yK0_letter ∈ ALLW := wt3 (List.mem_of_getElem? (i := 165) (by decide +kernel)) rfl
theorem wdt3_166 : Cond.selects "ReportCauses" yK0_letter yK0_letter ∈ ALLW := wt3 (List.mem_of_getElem? (i := 166) (by decide +kernel)) rfl
theorem wdt4_199 : Cond.methodLink "ReportCausesLaw" 107 yK5_letter ∈ ALLW := wt4 (List.mem_of_getElem? (i := 199) (by decide +kernel)) rfl
theorem wdt4_200 : Cond.instanceMethod yK5_letter ∈ ALLW := wt4 (List.mem_of_getElem? (i := 200) (by decide +kernel)) rfl
theorem wdt4_201 : Cond.selects "ReportCausesModel" yK5_letter yK5_letter ∈ ALLW := wt4 (List.mem_of_getElem? (i := 201) (by decide +kernel)) rfl
theorem dL_law_0 : decode code 0 = .ok (.new 7, 3) := by decide +kernel
theorem dL_law_3 : decode code 3 = .ok (.dup, 1) := by decide +kernel
theorem dL_law_4 : decode code 4 = .ok (.invokespecial 9, 3) := by decide +kernel
theorem dL_law_7 : decode code 7 = .ok (.astore_n 1, 1) := by decide +kernel
theorem dL_law_8 : decode code 8 = .ok (.new 10, 3) := by decide +kernel
theorem dL_law_11 : decode code 11 = .ok (.dup, 1) := by decide +kernel
theorem dL_law_12 : decode code 12 = .ok (.invokespecial 12, 3) := by decide +kernel
theorem dL_law_15 : decode code 15 = .ok (.astore_n 2, 1) := by decide +kernel
theorem dL_law_16 : decode code 16 = .ok (.iconst 0, 1) := by decide +kernel
theorem dL_law_17 : decode code 17 = .ok (.istore_n 3, 1) := by decide +kernel
theorem dL_law_18 : decode code 18 = .ok (.iload_n 3, 1) := by decide +kernel
theorem dL_law_19 : decode code 19 = .ok (.aload_n 0, 1) := by decide +kernel
theorem dL_law_20 : decode code 20 = .ok (.arraylength, 1) := by decide +kernel
theorem dL_law_21 : decode code 21 = .ok (.bipush 6, 2) := by decide +kernel
theorem dL_law_23 : decode code 23 = .ok (.isub, 1) := by decide +kernel
theorem dL_law_24 : decode code 24 = .ok (.if_icmp .gt 790, 3) := by decide +kernel
theorem dL_law_27 : decode code 27 = .ok (.aload_n 0, 1) := by decide +kernel
theorem dL_law_28 : decode code 28 = .ok (.iload_n 3, 1) := by decide +kernel
theorem dL_law_29 : decode code 29 = .ok (.iaload, 1) := by decide +kernel
theorem dL_law_30 : decode code 30 = .ok (.bipush 31, 2) := by decide +kernel
theorem dL_law_32 : decode code 32 = .ok (.iand, 1) := by decide +kernel
theorem dL_law_33 : decode code 33 = .ok (.tableswitch 775 0 21 #[103, 146, 189, 242, 255, 278, 311, 354, 433, 466, 479, 502, 545, 558, 571, 604, 627, 660, 683, 706, 729, 752], 103) := by decide +kernel
theorem dL_law_136 : decode code 136 = .ok (.aload_n 1, 1) := by decide +kernel
theorem dL_law_137 : decode code 137 = .ok (.aload_n 0, 1) := by decide +kernel
theorem dL_law_138 : decode code 138 = .ok (.iload_n 3, 1) := by decide +kernel
theorem dL_law_139 : decode code 139 = .ok (.iconst 1, 1) := by decide +kernel
theorem dL_law_140 : decode code 140 = .ok (.iadd, 1) := by decide +kernel
theorem dL_law_141 : decode code 141 = .ok (.iaload, 1) := by decide +kernel
theorem dL_law_142 : decode code 142 = .ok (.aload_n 0, 1) := by decide +kernel
theorem dL_law_143 : decode code 143 = .ok (.iload_n 3, 1) := by decide +kernel
theorem dL_law_144 : decode code 144 = .ok (.iconst 2, 1) := by decide +kernel
theorem dL_law_145 : decode code 145 = .ok (.iadd, 1) := by decide +kernel
theorem dL_law_146 : decode code 146 = .ok (.iaload, 1) := by decide +kernel
theorem dL_law_147 : decode code 147 = .ok (.aload_n 0, 1) := by decide +kernel
theorem dL_law_148 : decode code 148 = .ok (.iload_n 3, 1) := by decide +kernel
theorem dL_law_149 : decode code 149 = .ok (.iconst 3, 1) := by decide +kernel
theorem dL_law_150 : decode code 150 = .ok (.iadd, 1) := by decide +kernel
theorem dL_law_151 : decode code 151 = .ok (.iaload, 1) := by decide +kernel
theorem dL_law_152 : decode code 152 = .ok (.invokevirtual 13, 3) := by decide +kernel
theorem dL_law_155 : decode code 155 = .ok (.aload_n 2, 1) := by decide +kernel
theorem dL_law_156 : decode code 156 = .ok (.aload_n 0, 1) := by decide +kernel
theorem dL_law_157 : decode code 157 = .ok (.iload_n 3, 1) := by decide +kernel
theorem dL_law_158 : decode code 158 = .ok (.iconst 1, 1) := by decide +kernel
theorem dL_law_159 : decode code 159 = .ok (.iadd, 1) := by decide +kernel
theorem dL_law_160 : decode code 160 = .ok (.iaload, 1) := by decide +kernel
theorem dL_law_161 : decode code 161 = .ok (.aload_n 0, 1) := by decide +kernel
theorem dL_law_162 : decode code 162 = .ok (.iload_n 3, 1) := by decide +kernel
theorem dL_law_163 : decode code 163 = .ok (.iconst 2, 1) := by decide +kernel
theorem dL_law_164 : decode code 164 = .ok (.iadd, 1) := by decide +kernel
theorem dL_law_165 : decode code 165 = .ok (.iaload, 1) := by decide +kernel
theorem dL_law_166 : decode code 166 = .ok (.aload_n 0, 1) := by decide +kernel
theorem dL_law_167 : decode code 167 = .ok (.iload_n 3, 1) := by decide +kernel
theorem dL_law_168 : decode code 168 = .ok (.iconst 3, 1) := by decide +kernel
theorem dL_law_169 : decode code 169 = .ok (.iadd, 1) := by decide +kernel
theorem dL_law_170 : decode code 170 = .ok (.iaload, 1) := by decide +kernel
theorem dL_law_171 : decode code 171 = .ok (.invokevirtual 17, 3) := by decide +kernel
theorem dL_law_174 : decode code 174 = .ok (.if_icmp .eq 634, 3) := by decide +kernel
theorem dL_law_177 : decode code 177 = .ok (.iconst 0, 1) := by decide +kernel
theorem dL_law_178 : decode code 178 = .ok (.ireturn, 1) := by decide +kernel
theorem dL_law_179 : decode code 179 = .ok (.aload_n 1, 1) := by decide +kernel
theorem dL_law_180 : decode code 180 = .ok (.aload_n 0, 1) := by decide +kernel
theorem dL_law_181 : decode code 181 = .ok (.iload_n 3, 1) := by decide +kernel
theorem dL_law_182 : decode code 182 = .ok (.iconst 1, 1) := by decide +kernel
theorem dL_law_183 : decode code 183 = .ok (.iadd, 1) := by decide +kernel
theorem dL_law_184 : decode code 184 = .ok (.iaload, 1) := by decide +kernel
theorem dL_law_185 : decode code 185 = .ok (.aload_n 0, 1) := by decide +kernel
theorem dL_law_186 : decode code 186 = .ok (.iload_n 3, 1) := by decide +kernel
theorem dL_law_187 : decode code 187 = .ok (.iconst 2, 1) := by decide +kernel
theorem dL_law_188 : decode code 188 = .ok (.iadd, 1) := by decide +kernel
theorem dL_law_189 : decode code 189 = .ok (.iaload, 1) := by decide +kernel
theorem dL_law_190 : decode code 190 = .ok (.aload_n 0, 1) := by decide +kernel
theorem dL_law_191 : decode code 191 = .ok (.iload_n 3, 1) := by decide +kernel
theorem dL_law_192 : decode code 192 = .ok (.iconst 3, 1) := by decide +kernel
theorem dL_law_193 : decode code 193 = .ok (.iadd, 1) := by decide +kernel
theorem dL_law_194 : decode code 194 = .ok (.iaload, 1) := by decide +kernel
theorem dL_law_195 : decode code 195 = .ok (.invokevirtual 18, 3) := by decide +kernel
theorem dL_law_198 : decode code 198 = .ok (.aload_n 2, 1) := by decide +kernel
theorem dL_law_199 : decode code 199 = .ok (.aload_n 0, 1) := by decide +kernel
theorem dL_law_200 : decode code 200 = .ok (.iload_n 3, 1) := by decide +kernel
theorem dL_law_201 : decode code 201 = .ok (.iconst 1, 1) := by decide +kernel
theorem dL_law_202 : decode code 202 = .ok (.iadd, 1) := by decide +kernel
theorem dL_law_203 : decode code 203 = .ok (.iaload, 1) := by decide +kernel
theorem dL_law_204 : decode code 204 = .ok (.aload_n 0, 1) := by decide +kernel
theorem dL_law_205 : decode code 205 = .ok (.iload_n 3, 1) := by decide +kernel
theorem dL_law_206 : decode code 206 = .ok (.iconst 2, 1) := by decide +kernel
theorem dL_law_207 : decode code 207 = .ok (.iadd, 1) := by decide +kernel
theorem dL_law_208 : decode code 208 = .ok (.iaload, 1) := by decide +kernel
theorem dL_law_209 : decode code 209 = .ok (.aload_n 0, 1) := by decide +kernel
theorem dL_law_210 : decode code 210 = .ok (.iload_n 3, 1) := by decide +kernel
theorem dL_law_211 : decode code 211 = .ok (.iconst 3, 1) := by decide +kernel
theorem dL_law_212 : decode code 212 = .ok (.iadd, 1) := by decide +kernel
theorem dL_law_213 : decode code 213 = .ok (.iaload, 1) := by decide +kernel
theorem dL_law_214 : decode code 214 = .ok (.invokevirtual 21, 3) := by decide +kernel
theorem dL_law_217 : decode code 217 = .ok (.if_icmp .eq 591, 3) := by decide +kernel
theorem dL_law_220 : decode code 220 = .ok (.iconst 0, 1) := by decide +kernel
theorem dL_law_221 : decode code 221 = .ok (.ireturn, 1) := by decide +kernel
theorem dL_law_222 : decode code 222 = .ok (.aload_n 1, 1) := by decide +kernel
theorem dL_law_223 : decode code 223 = .ok (.aload_n 0, 1) := by decide +kernel
theorem dL_law_224 : decode code 224 = .ok (.iload_n 3, 1) := by decide +kernel
theorem dL_law_225 : decode code 225 = .ok (.iconst 1, 1) := by decide +kernel
theorem dL_law_226 : decode code 226 = .ok (.iadd, 1) := by decide +kernel
theorem dL_law_227 : decode code 227 = .ok (.iaload, 1) := by decide +kernel
theorem dL_law_228 : decode code 228 = .ok (.aload_n 0, 1) := by decide +kernel
theorem dL_law_229 : decode code 229 = .ok (.iload_n 3, 1) := by decide +kernel
theorem dL_law_230 : decode code 230 = .ok (.iconst 2, 1) := by decide +kernel
theorem dL_law_231 : decode code 231 = .ok (.iadd, 1) := by decide +kernel
theorem dL_law_232 : decode code 232 = .ok (.iaload, 1) := by decide +kernel
theorem dL_law_233 : decode code 233 = .ok (.aload_n 0, 1) := by decide +kernel
theorem dL_law_234 : decode code 234 = .ok (.iload_n 3, 1) := by decide +kernel
theorem dL_law_235 : decode code 235 = .ok (.iconst 3, 1) := by decide +kernel
theorem dL_law_236 : decode code 236 = .ok (.iadd, 1) := by decide +kernel
theorem dL_law_237 : decode code 237 = .ok (.iaload, 1) := by decide +kernel
theorem dL_law_238 : decode code 238 = .ok (.aload_n 0, 1) := by decide +kernel
theorem dL_law_239 : decode code 239 = .ok (.iload_n 3, 1) := by decide +kernel
theorem dL_law_240 : decode code 240 = .ok (.iconst 4, 1) := by decide +kernel
theorem dL_law_241 : decode code 241 = .ok (.iadd, 1) := by decide +kernel
theorem dL_law_242 : decode code 242 = .ok (.iaload, 1) := by decide +kernel
theorem dL_law_243 : decode code 243 = .ok (.invokevirtual 22, 3) := by decide +kernel
theorem dL_law_246 : decode code 246 = .ok (.aload_n 2, 1) := by decide +kernel
theorem dL_law_247 : decode code 247 = .ok (.aload_n 0, 1) := by decide +kernel
theorem dL_law_248 : decode code 248 = .ok (.iload_n 3, 1) := by decide +kernel
theorem dL_law_249 : decode code 249 = .ok (.iconst 1, 1) := by decide +kernel
theorem dL_law_250 : decode code 250 = .ok (.iadd, 1) := by decide +kernel
theorem dL_law_251 : decode code 251 = .ok (.iaload, 1) := by decide +kernel
theorem dL_law_252 : decode code 252 = .ok (.aload_n 0, 1) := by decide +kernel
theorem dL_law_253 : decode code 253 = .ok (.iload_n 3, 1) := by decide +kernel
theorem dL_law_254 : decode code 254 = .ok (.iconst 2, 1) := by decide +kernel
theorem dL_law_255 : decode code 255 = .ok (.iadd, 1) := by decide +kernel
theorem dL_law_256 : decode code 256 = .ok (.iaload, 1) := by decide +kernel
theorem dL_law_257 : decode code 257 = .ok (.aload_n 0, 1) := by decide +kernel
theorem dL_law_258 : decode code 258 = .ok (.iload_n 3, 1) := by decide +kernel
theorem dL_law_259 : decode code 259 = .ok (.iconst 3, 1) := by decide +kernel
theorem dL_law_260 : decode code 260 = .ok (.iadd, 1) := by decide +kernel
theorem dL_law_261 : decode code 261 = .ok (.iaload, 1) := by decide +kernel
theorem dL_law_262 : decode code 262 = .ok (.aload_n 0, 1) := by decide +kernel
theorem dL_law_263 : decode code 263 = .ok (.iload_n 3, 1) := by decide +kernel
theorem dL_law_264 : decode code 264 = .ok (.iconst 4, 1) := by decide +kernel
theorem dL_law_265 : decode code 265 = .ok (.iadd, 1) := by decide +kernel
theorem dL_law_266 : decode code 266 = .ok (.iaload, 1) := by decide +kernel
theorem dL_law_267 : decode code 267 = .ok (.invokevirtual 26, 3) := by decide +kernel
theorem dL_law_270 : decode code 270 = .ok (.if_icmp .eq 538, 3) := by decide +kernel
theorem dL_law_273 : decode code 273 = .ok (.iconst 0, 1) := by decide +kernel
theorem dL_law_274 : decode code 274 = .ok (.ireturn, 1) := by decide +kernel
theorem dL_law_275 : decode code 275 = .ok (.aload_n 1, 1) := by decide +kernel
theorem dL_law_276 : decode code 276 = .ok (.invokevirtual 27, 3) := by decide +kernel
theorem dL_law_279 : decode code 279 = .ok (.aload_n 2, 1) := by decide +kernel
theorem dL_law_280 : decode code 280 = .ok (.invokevirtual 31, 3) := by decide +kernel
theorem dL_law_283 : decode code 283 = .ok (.if_icmp .eq 525, 3) := by decide +kernel
theorem dL_law_286 : decode code 286 = .ok (.iconst 0, 1) := by decide +kernel
theorem dL_law_287 : decode code 287 = .ok (.ireturn, 1) := by decide +kernel
theorem dL_law_288 : decode code 288 = .ok (.aload_n 1, 1) := by decide +kernel
theorem dL_law_289 : decode code 289 = .ok (.aload_n 0, 1) := by decide +kernel
theorem dL_law_290 : decode code 290 = .ok (.iload_n 3, 1) := by decide +kernel
theorem dL_law_291 : decode code 291 = .ok (.iconst 1, 1) := by decide +kernel
theorem dL_law_292 : decode code 292 = .ok (.iadd, 1) := by decide +kernel
theorem dL_law_293 : decode code 293 = .ok (.iaload, 1) := by decide +kernel
theorem dL_law_294 : decode code 294 = .ok (.invokevirtual 32, 3) := by decide +kernel
theorem dL_law_297 : decode code 297 = .ok (.aload_n 2, 1) := by decide +kernel
theorem dL_law_298 : decode code 298 = .ok (.aload_n 0, 1) := by decide +kernel
theorem dL_law_299 : decode code 299 = .ok (.iload_n 3, 1) := by decide +kernel
theorem dL_law_300 : decode code 300 = .ok (.iconst 1, 1) := by decide +kernel
theorem dL_law_301 : decode code 301 = .ok (.iadd, 1) := by decide +kernel
theorem dL_law_302 : decode code 302 = .ok (.iaload, 1) := by decide +kernel
theorem dL_law_303 : decode code 303 = .ok (.invokevirtual 36, 3) := by decide +kernel
theorem dL_law_306 : decode code 306 = .ok (.if_icmp .eq 502, 3) := by decide +kernel
theorem dL_law_309 : decode code 309 = .ok (.iconst 0, 1) := by decide +kernel
theorem dL_law_310 : decode code 310 = .ok (.ireturn, 1) := by decide +kernel
theorem dL_law_311 : decode code 311 = .ok (.aload_n 1, 1) := by decide +kernel
theorem dL_law_312 : decode code 312 = .ok (.aload_n 0, 1) := by decide +kernel
theorem dL_law_313 : decode code 313 = .ok (.iload_n 3, 1) := by decide +kernel
theorem dL_law_314 : decode code 314 = .ok (.iconst 1, 1) := by decide +kernel
theorem dL_law_315 : decode code 315 = .ok (.iadd, 1) := by decide +kernel
theorem dL_law_316 : decode code 316 = .ok (.iaload, 1) := by decide +kernel
theorem dL_law_317 : decode code 317 = .ok (.aload_n 0, 1) := by decide +kernel
theorem dL_law_318 : decode code 318 = .ok (.iload_n 3, 1) := by decide +kernel
theorem dL_law_319 : decode code 319 = .ok (.iconst 2, 1) := by decide +kernel
theorem dL_law_320 : decode code 320 = .ok (.iadd, 1) := by decide +kernel
theorem dL_law_321 : decode code 321 = .ok (.iaload, 1) := by decide +kernel
theorem dL_law_322 : decode code 322 = .ok (.invokevirtual 37, 3) := by decide +kernel
theorem dL_law_325 : decode code 325 = .ok (.aload_n 2, 1) := by decide +kernel
theorem dL_law_326 : decode code 326 = .ok (.aload_n 0, 1) := by decide +kernel
theorem dL_law_327 : decode code 327 = .ok (.iload_n 3, 1) := by decide +kernel
theorem dL_law_328 : decode code 328 = .ok (.iconst 1, 1) := by decide +kernel
theorem dL_law_329 : decode code 329 = .ok (.iadd, 1) := by decide +kernel
theorem dL_law_330 : decode code 330 = .ok (.iaload, 1) := by decide +kernel
theorem dL_law_331 : decode code 331 = .ok (.aload_n 0, 1) := by decide +kernel
theorem dL_law_332 : decode code 332 = .ok (.iload_n 3, 1) := by decide +kernel
theorem dL_law_333 : decode code 333 = .ok (.iconst 2, 1) := by decide +kernel
theorem dL_law_334 : decode code 334 = .ok (.iadd, 1) := by decide +kernel
theorem dL_law_335 : decode code 335 = .ok (.iaload, 1) := by decide +kernel
theorem dL_law_336 : decode code 336 = .ok (.invokevirtual 41, 3) := by decide +kernel
theorem dL_law_339 : decode code 339 = .ok (.if_icmp .eq 469, 3) := by decide +kernel
theorem dL_law_342 : decode code 342 = .ok (.iconst 0, 1) := by decide +kernel
theorem dL_law_343 : decode code 343 = .ok (.ireturn, 1) := by decide +kernel
theorem dL_law_344 : decode code 344 = .ok (.aload_n 1, 1) := by decide +kernel
theorem dL_law_345 : decode code 345 = .ok (.aload_n 0, 1) := by decide +kernel
theorem dL_law_346 : decode code 346 = .ok (.iload_n 3, 1) := by decide +kernel
theorem dL_law_347 : decode code 347 = .ok (.iconst 1, 1) := by decide +kernel
theorem dL_law_348 : decode code 348 = .ok (.iadd, 1) := by decide +kernel
theorem dL_law_349 : decode code 349 = .ok (.iaload, 1) := by decide +kernel
theorem dL_law_350 : decode code 350 = .ok (.aload_n 0, 1) := by decide +kernel
theorem dL_law_351 : decode code 351 = .ok (.iload_n 3, 1) := by decide +kernel
theorem dL_law_352 : decode code 352 = .ok (.iconst 2, 1) := by decide +kernel
theorem dL_law_353 : decode code 353 = .ok (.iadd, 1) := by decide +kernel
theorem dL_law_354 : decode code 354 = .ok (.iaload, 1) := by decide +kernel
theorem dL_law_355 : decode code 355 = .ok (.aload_n 0, 1) := by decide +kernel
theorem dL_law_356 : decode code 356 = .ok (.iload_n 3, 1) := by decide +kernel
theorem dL_law_357 : decode code 357 = .ok (.iconst 3, 1) := by decide +kernel
theorem dL_law_358 : decode code 358 = .ok (.iadd, 1) := by decide +kernel
theorem dL_law_359 : decode code 359 = .ok (.iaload, 1) := by decide +kernel
theorem dL_law_360 : decode code 360 = .ok (.invokevirtual 42, 3) := by decide +kernel
theorem dL_law_363 : decode code 363 = .ok (.aload_n 2, 1) := by decide +kernel
theorem dL_law_364 : decode code 364 = .ok (.aload_n 0, 1) := by decide +kernel
theorem dL_law_365 : decode code 365 = .ok (.iload_n 3, 1) := by decide +kernel
theorem dL_law_366 : decode code 366 = .ok (.iconst 1, 1) := by decide +kernel
theorem dL_law_367 : decode code 367 = .ok (.iadd, 1) := by decide +kernel
theorem dL_law_368 : decode code 368 = .ok (.iaload, 1) := by decide +kernel
theorem dL_law_369 : decode code 369 = .ok (.aload_n 0, 1) := by decide +kernel
theorem dL_law_370 : decode code 370 = .ok (.iload_n 3, 1) := by decide +kernel
theorem dL_law_371 : decode code 371 = .ok (.iconst 2, 1) := by decide +kernel
theorem dL_law_372 : decode code 372 = .ok (.iadd, 1) := by decide +kernel
theorem dL_law_373 : decode code 373 = .ok (.iaload, 1) := by decide +kernel
theorem dL_law_374 : decode code 374 = .ok (.aload_n 0, 1) := by decide +kernel
theorem dL_law_375 : decode code 375 = .ok (.iload_n 3, 1) := by decide +kernel
theorem dL_law_376 : decode code 376 = .ok (.iconst 3, 1) := by decide +kernel
theorem dL_law_377 : decode code 377 = .ok (.iadd, 1) := by decide +kernel
theorem dL_law_378 : decode code 378 = .ok (.iaload, 1) := by decide +kernel
theorem dL_law_379 : decode code 379 = .ok (.invokevirtual 45, 3) := by decide +kernel
theorem dL_law_382 : decode code 382 = .ok (.if_icmp .eq 426, 3) := by decide +kernel
theorem dL_law_385 : decode code 385 = .ok (.iconst 0, 1) := by decide +kernel
theorem dL_law_386 : decode code 386 = .ok (.ireturn, 1) := by decide +kernel
theorem dL_law_387 : decode code 387 = .ok (.aload_n 1, 1) := by decide +kernel
theorem dL_law_388 : decode code 388 = .ok (.aload_n 0, 1) := by decide +kernel
theorem dL_law_389 : decode code 389 = .ok (.iload_n 3, 1) := by decide +kernel
theorem dL_law_390 : decode code 390 = .ok (.iconst 1, 1) := by decide +kernel
theorem dL_law_391 : decode code 391 = .ok (.iadd, 1) := by decide +kernel
theorem dL_law_392 : decode code 392 = .ok (.iaload, 1) := by decide +kernel
theorem dL_law_393 : decode code 393 = .ok (.ifCond .eq 7, 3) := by decide +kernel
theorem dL_law_396 : decode code 396 = .ok (.iconst 1, 1) := by decide +kernel
theorem dL_law_397 : decode code 397 = .ok (.goto 4, 3) := by decide +kernel
theorem dL_law_400 : decode code 400 = .ok (.iconst 0, 1) := by decide +kernel
theorem dL_law_401 : decode code 401 = .ok (.aload_n 0, 1) := by decide +kernel
theorem dL_law_402 : decode code 402 = .ok (.iload_n 3, 1) := by decide +kernel
theorem dL_law_403 : decode code 403 = .ok (.iconst 2, 1) := by decide +kernel
theorem dL_law_404 : decode code 404 = .ok (.iadd, 1) := by decide +kernel
theorem dL_law_405 : decode code 405 = .ok (.iaload, 1) := by decide +kernel
theorem dL_law_406 : decode code 406 = .ok (.aload_n 0, 1) := by decide +kernel
theorem dL_law_407 : decode code 407 = .ok (.iload_n 3, 1) := by decide +kernel
theorem dL_law_408 : decode code 408 = .ok (.iconst 3, 1) := by decide +kernel
theorem dL_law_409 : decode code 409 = .ok (.iadd, 1) := by decide +kernel
theorem dL_law_410 : decode code 410 = .ok (.iaload, 1) := by decide +kernel
theorem dL_law_411 : decode code 411 = .ok (.aload_n 0, 1) := by decide +kernel
theorem dL_law_412 : decode code 412 = .ok (.iload_n 3, 1) := by decide +kernel
theorem dL_law_413 : decode code 413 = .ok (.iconst 4, 1) := by decide +kernel
theorem dL_law_414 : decode code 414 = .ok (.iadd, 1) := by decide +kernel
theorem dL_law_415 : decode code 415 = .ok (.iaload, 1) := by decide +kernel
theorem dL_law_416 : decode code 416 = .ok (.aload_n 0, 1) := by decide +kernel
theorem dL_law_417 : decode code 417 = .ok (.iload_n 3, 1) := by decide +kernel
theorem dL_law_418 : decode code 418 = .ok (.iconst 5, 1) := by decide +kernel
theorem dL_law_419 : decode code 419 = .ok (.iadd, 1) := by decide +kernel
theorem dL_law_420 : decode code 420 = .ok (.iaload, 1) := by decide +kernel
theorem dL_law_421 : decode code 421 = .ok (.invokevirtual 46, 3) := by decide +kernel
theorem dL_law_424 : decode code 424 = .ok (.aload_n 2, 1) := by decide +kernel
theorem dL_law_425 : decode code 425 = .ok (.aload_n 0, 1) := by decide +kernel
theorem dL_law_426 : decode code 426 = .ok (.iload_n 3, 1) := by decide +kernel
theorem dL_law_427 : decode code 427 = .ok (.iconst 1, 1) := by decide +kernel
theorem dL_law_428 : decode code 428 = .ok (.iadd, 1) := by decide +kernel
theorem dL_law_429 : decode code 429 = .ok (.iaload, 1) := by decide +kernel
theorem dL_law_430 : decode code 430 = .ok (.ifCond .eq 7, 3) := by decide +kernel
theorem dL_law_433 : decode code 433 = .ok (.iconst 1, 1) := by decide +kernel
theorem dL_law_434 : decode code 434 = .ok (.goto 4, 3) := by decide +kernel
theorem dL_law_437 : decode code 437 = .ok (.iconst 0, 1) := by decide +kernel
theorem dL_law_438 : decode code 438 = .ok (.aload_n 0, 1) := by decide +kernel
theorem dL_law_439 : decode code 439 = .ok (.iload_n 3, 1) := by decide +kernel
theorem dL_law_440 : decode code 440 = .ok (.iconst 2, 1) := by decide +kernel
theorem dL_law_441 : decode code 441 = .ok (.iadd, 1) := by decide +kernel
theorem dL_law_442 : decode code 442 = .ok (.iaload, 1) := by decide +kernel
theorem dL_law_443 : decode code 443 = .ok (.aload_n 0, 1) := by decide +kernel
theorem dL_law_444 : decode code 444 = .ok (.iload_n 3, 1) := by decide +kernel
theorem dL_law_445 : decode code 445 = .ok (.iconst 3, 1) := by decide +kernel
theorem dL_law_446 : decode code 446 = .ok (.iadd, 1) := by decide +kernel
theorem dL_law_447 : decode code 447 = .ok (.iaload, 1) := by decide +kernel
theorem dL_law_448 : decode code 448 = .ok (.aload_n 0, 1) := by decide +kernel
theorem dL_law_449 : decode code 449 = .ok (.iload_n 3, 1) := by decide +kernel
theorem dL_law_450 : decode code 450 = .ok (.iconst 4, 1) := by decide +kernel
theorem dL_law_451 : decode code 451 = .ok (.iadd, 1) := by decide +kernel
theorem dL_law_452 : decode code 452 = .ok (.iaload, 1) := by decide +kernel
theorem dL_law_453 : decode code 453 = .ok (.aload_n 0, 1) := by decide +kernel
theorem dL_law_454 : decode code 454 = .ok (.iload_n 3, 1) := by decide +kernel
theorem dL_law_455 : decode code 455 = .ok (.iconst 5, 1) := by decide +kernel
theorem dL_law_456 : decode code 456 = .ok (.iadd, 1) := by decide +kernel
theorem dL_law_457 : decode code 457 = .ok (.iaload, 1) := by decide +kernel
theorem dL_law_458 : decode code 458 = .ok (.invokevirtual 50, 3) := by decide +kernel
theorem dL_law_461 : decode code 461 = .ok (.if_icmp .eq 347, 3) := by decide +kernel
theorem dL_law_464 : decode code 464 = .ok (.iconst 0, 1) := by decide +kernel
theorem dL_law_465 : decode code 465 = .ok (.ireturn, 1) := by decide +kernel
theorem dL_law_466 : decode code 466 = .ok (.aload_n 1, 1) := by decide +kernel
theorem dL_law_467 : decode code 467 = .ok (.aload_n 0, 1) := by decide +kernel
theorem dL_law_468 : decode code 468 = .ok (.iload_n 3, 1) := by decide +kernel
theorem dL_law_469 : decode code 469 = .ok (.iconst 1, 1) := by decide +kernel
theorem dL_law_470 : decode code 470 = .ok (.iadd, 1) := by decide +kernel
theorem dL_law_471 : decode code 471 = .ok (.iaload, 1) := by decide +kernel
theorem dL_law_472 : decode code 472 = .ok (.aload_n 0, 1) := by decide +kernel
theorem dL_law_473 : decode code 473 = .ok (.iload_n 3, 1) := by decide +kernel
theorem dL_law_474 : decode code 474 = .ok (.iconst 2, 1) := by decide +kernel
theorem dL_law_475 : decode code 475 = .ok (.iadd, 1) := by decide +kernel
theorem dL_law_476 : decode code 476 = .ok (.iaload, 1) := by decide +kernel
theorem dL_law_477 : decode code 477 = .ok (.invokevirtual 51, 3) := by decide +kernel
theorem dL_law_480 : decode code 480 = .ok (.aload_n 2, 1) := by decide +kernel
theorem dL_law_481 : decode code 481 = .ok (.aload_n 0, 1) := by decide +kernel
theorem dL_law_482 : decode code 482 = .ok (.iload_n 3, 1) := by decide +kernel
theorem dL_law_483 : decode code 483 = .ok (.iconst 1, 1) := by decide +kernel
theorem dL_law_484 : decode code 484 = .ok (.iadd, 1) := by decide +kernel
theorem dL_law_485 : decode code 485 = .ok (.iaload, 1) := by decide +kernel
theorem dL_law_486 : decode code 486 = .ok (.aload_n 0, 1) := by decide +kernel
theorem dL_law_487 : decode code 487 = .ok (.iload_n 3, 1) := by decide +kernel
theorem dL_law_488 : decode code 488 = .ok (.iconst 2, 1) := by decide +kernel
theorem dL_law_489 : decode code 489 = .ok (.iadd, 1) := by decide +kernel
theorem dL_law_490 : decode code 490 = .ok (.iaload, 1) := by decide +kernel
theorem dL_law_491 : decode code 491 = .ok (.invokevirtual 54, 3) := by decide +kernel
theorem dL_law_494 : decode code 494 = .ok (.if_icmp .eq 314, 3) := by decide +kernel
theorem dL_law_497 : decode code 497 = .ok (.iconst 0, 1) := by decide +kernel
theorem dL_law_498 : decode code 498 = .ok (.ireturn, 1) := by decide +kernel
theorem dL_law_499 : decode code 499 = .ok (.aload_n 1, 1) := by decide +kernel
theorem dL_law_500 : decode code 500 = .ok (.invokevirtual 55, 3) := by decide +kernel
theorem dL_law_503 : decode code 503 = .ok (.aload_n 2, 1) := by decide +kernel
theorem dL_law_504 : decode code 504 = .ok (.invokevirtual 58, 3) := by decide +kernel
theorem dL_law_507 : decode code 507 = .ok (.if_icmp .eq 301, 3) := by decide +kernel
theorem dL_law_510 : decode code 510 = .ok (.iconst 0, 1) := by decide +kernel
theorem dL_law_511 : decode code 511 = .ok (.ireturn, 1) := by decide +kernel
theorem dL_law_512 : decode code 512 = .ok (.aload_n 1, 1) := by decide +kernel
theorem dL_law_513 : decode code 513 = .ok (.aload_n 0, 1) := by decide +kernel
theorem dL_law_514 : decode code 514 = .ok (.iload_n 3, 1) := by decide +kernel
theorem dL_law_515 : decode code 515 = .ok (.iconst 1, 1) := by decide +kernel
theorem dL_law_516 : decode code 516 = .ok (.iadd, 1) := by decide +kernel
theorem dL_law_517 : decode code 517 = .ok (.iaload, 1) := by decide +kernel
theorem dL_law_518 : decode code 518 = .ok (.invokevirtual 59, 3) := by decide +kernel
theorem dL_law_521 : decode code 521 = .ok (.aload_n 2, 1) := by decide +kernel
theorem dL_law_522 : decode code 522 = .ok (.aload_n 0, 1) := by decide +kernel
theorem dL_law_523 : decode code 523 = .ok (.iload_n 3, 1) := by decide +kernel
theorem dL_law_524 : decode code 524 = .ok (.iconst 1, 1) := by decide +kernel
theorem dL_law_525 : decode code 525 = .ok (.iadd, 1) := by decide +kernel
theorem dL_law_526 : decode code 526 = .ok (.iaload, 1) := by decide +kernel
theorem dL_law_527 : decode code 527 = .ok (.invokevirtual 62, 3) := by decide +kernel
theorem dL_law_530 : decode code 530 = .ok (.if_icmp .eq 278, 3) := by decide +kernel
theorem dL_law_533 : decode code 533 = .ok (.iconst 0, 1) := by decide +kernel
theorem dL_law_534 : decode code 534 = .ok (.ireturn, 1) := by decide +kernel
theorem dL_law_535 : decode code 535 = .ok (.aload_n 1, 1) := by decide +kernel
theorem dL_law_536 : decode code 536 = .ok (.aload_n 0, 1) := by decide +kernel
theorem dL_law_537 : decode code 537 = .ok (.iload_n 3, 1) := by decide +kernel
theorem dL_law_538 : decode code 538 = .ok (.iconst 1, 1) := by decide +kernel
theorem dL_law_539 : decode code 539 = .ok (.iadd, 1) := by decide +kernel
theorem dL_law_540 : decode code 540 = .ok (.iaload, 1) := by decide +kernel
theorem dL_law_541 : decode code 541 = .ok (.aload_n 0, 1) := by decide +kernel
theorem dL_law_542 : decode code 542 = .ok (.iload_n 3, 1) := by decide +kernel
theorem dL_law_543 : decode code 543 = .ok (.iconst 2, 1) := by decide +kernel
theorem dL_law_544 : decode code 544 = .ok (.iadd, 1) := by decide +kernel
theorem dL_law_545 : decode code 545 = .ok (.iaload, 1) := by decide +kernel
theorem dL_law_546 : decode code 546 = .ok (.aload_n 0, 1) := by decide +kernel
theorem dL_law_547 : decode code 547 = .ok (.iload_n 3, 1) := by decide +kernel
theorem dL_law_548 : decode code 548 = .ok (.iconst 3, 1) := by decide +kernel
theorem dL_law_549 : decode code 549 = .ok (.iadd, 1) := by decide +kernel
theorem dL_law_550 : decode code 550 = .ok (.iaload, 1) := by decide +kernel
theorem dL_law_551 : decode code 551 = .ok (.invokevirtual 63, 3) := by decide +kernel
theorem dL_law_554 : decode code 554 = .ok (.aload_n 2, 1) := by decide +kernel
theorem dL_law_555 : decode code 555 = .ok (.aload_n 0, 1) := by decide +kernel
theorem dL_law_556 : decode code 556 = .ok (.iload_n 3, 1) := by decide +kernel
theorem dL_law_557 : decode code 557 = .ok (.iconst 1, 1) := by decide +kernel
theorem dL_law_558 : decode code 558 = .ok (.iadd, 1) := by decide +kernel
theorem dL_law_559 : decode code 559 = .ok (.iaload, 1) := by decide +kernel
theorem dL_law_560 : decode code 560 = .ok (.aload_n 0, 1) := by decide +kernel
theorem dL_law_561 : decode code 561 = .ok (.iload_n 3, 1) := by decide +kernel
theorem dL_law_562 : decode code 562 = .ok (.iconst 2, 1) := by decide +kernel
theorem dL_law_563 : decode code 563 = .ok (.iadd, 1) := by decide +kernel
theorem dL_law_564 : decode code 564 = .ok (.iaload, 1) := by decide +kernel
theorem dL_law_565 : decode code 565 = .ok (.aload_n 0, 1) := by decide +kernel
theorem dL_law_566 : decode code 566 = .ok (.iload_n 3, 1) := by decide +kernel
theorem dL_law_567 : decode code 567 = .ok (.iconst 3, 1) := by decide +kernel
theorem dL_law_568 : decode code 568 = .ok (.iadd, 1) := by decide +kernel
theorem dL_law_569 : decode code 569 = .ok (.iaload, 1) := by decide +kernel
theorem dL_law_570 : decode code 570 = .ok (.invokevirtual 66, 3) := by decide +kernel
theorem dL_law_573 : decode code 573 = .ok (.if_icmp .eq 235, 3) := by decide +kernel
theorem dL_law_576 : decode code 576 = .ok (.iconst 0, 1) := by decide +kernel
theorem dL_law_577 : decode code 577 = .ok (.ireturn, 1) := by decide +kernel
theorem dL_law_578 : decode code 578 = .ok (.aload_n 1, 1) := by decide +kernel
theorem dL_law_579 : decode code 579 = .ok (.invokevirtual 67, 3) := by decide +kernel
theorem dL_law_582 : decode code 582 = .ok (.aload_n 2, 1) := by decide +kernel
theorem dL_law_583 : decode code 583 = .ok (.invokevirtual 71, 3) := by decide +kernel
theorem dL_law_586 : decode code 586 = .ok (.if_icmp .eq 222, 3) := by decide +kernel
theorem dL_law_589 : decode code 589 = .ok (.iconst 0, 1) := by decide +kernel
theorem dL_law_590 : decode code 590 = .ok (.ireturn, 1) := by decide +kernel
theorem dL_law_591 : decode code 591 = .ok (.aload_n 1, 1) := by decide +kernel
theorem dL_law_592 : decode code 592 = .ok (.invokevirtual 72, 3) := by decide +kernel
theorem dL_law_595 : decode code 595 = .ok (.aload_n 2, 1) := by decide +kernel
theorem dL_law_596 : decode code 596 = .ok (.invokevirtual 75, 3) := by decide +kernel
theorem dL_law_599 : decode code 599 = .ok (.if_icmp .eq 209, 3) := by decide +kernel
theorem dL_law_602 : decode code 602 = .ok (.iconst 0, 1) := by decide +kernel
theorem dL_law_603 : decode code 603 = .ok (.ireturn, 1) := by decide +kernel
theorem dL_law_604 : decode code 604 = .ok (.aload_n 1, 1) := by decide +kernel
theorem dL_law_605 : decode code 605 = .ok (.aload_n 0, 1) := by decide +kernel
theorem dL_law_606 : decode code 606 = .ok (.iload_n 3, 1) := by decide +kernel
theorem dL_law_607 : decode code 607 = .ok (.iconst 1, 1) := by decide +kernel
theorem dL_law_608 : decode code 608 = .ok (.iadd, 1) := by decide +kernel
theorem dL_law_609 : decode code 609 = .ok (.iaload, 1) := by decide +kernel
theorem dL_law_610 : decode code 610 = .ok (.aload_n 0, 1) := by decide +kernel
theorem dL_law_611 : decode code 611 = .ok (.iload_n 3, 1) := by decide +kernel
theorem dL_law_612 : decode code 612 = .ok (.iconst 2, 1) := by decide +kernel
theorem dL_law_613 : decode code 613 = .ok (.iadd, 1) := by decide +kernel
theorem dL_law_614 : decode code 614 = .ok (.iaload, 1) := by decide +kernel
theorem dL_law_615 : decode code 615 = .ok (.invokevirtual 76, 3) := by decide +kernel
theorem dL_law_618 : decode code 618 = .ok (.aload_n 2, 1) := by decide +kernel
theorem dL_law_619 : decode code 619 = .ok (.aload_n 0, 1) := by decide +kernel
theorem dL_law_620 : decode code 620 = .ok (.iload_n 3, 1) := by decide +kernel
theorem dL_law_621 : decode code 621 = .ok (.iconst 1, 1) := by decide +kernel
theorem dL_law_622 : decode code 622 = .ok (.iadd, 1) := by decide +kernel
theorem dL_law_623 : decode code 623 = .ok (.iaload, 1) := by decide +kernel
theorem dL_law_624 : decode code 624 = .ok (.aload_n 0, 1) := by decide +kernel
theorem dL_law_625 : decode code 625 = .ok (.iload_n 3, 1) := by decide +kernel
theorem dL_law_626 : decode code 626 = .ok (.iconst 2, 1) := by decide +kernel
theorem dL_law_627 : decode code 627 = .ok (.iadd, 1) := by decide +kernel
theorem dL_law_628 : decode code 628 = .ok (.iaload, 1) := by decide +kernel
theorem dL_law_629 : decode code 629 = .ok (.invokevirtual 79, 3) := by decide +kernel
theorem dL_law_632 : decode code 632 = .ok (.if_icmp .eq 176, 3) := by decide +kernel
theorem dL_law_635 : decode code 635 = .ok (.iconst 0, 1) := by decide +kernel
theorem dL_law_636 : decode code 636 = .ok (.ireturn, 1) := by decide +kernel
theorem dL_law_637 : decode code 637 = .ok (.aload_n 1, 1) := by decide +kernel
theorem dL_law_638 : decode code 638 = .ok (.aload_n 0, 1) := by decide +kernel
theorem dL_law_639 : decode code 639 = .ok (.iload_n 3, 1) := by decide +kernel
theorem dL_law_640 : decode code 640 = .ok (.iconst 1, 1) := by decide +kernel
theorem dL_law_641 : decode code 641 = .ok (.iadd, 1) := by decide +kernel
theorem dL_law_642 : decode code 642 = .ok (.iaload, 1) := by decide +kernel
theorem dL_law_643 : decode code 643 = .ok (.invokevirtual 80, 3) := by decide +kernel
theorem dL_law_646 : decode code 646 = .ok (.aload_n 2, 1) := by decide +kernel
theorem dL_law_647 : decode code 647 = .ok (.aload_n 0, 1) := by decide +kernel
theorem dL_law_648 : decode code 648 = .ok (.iload_n 3, 1) := by decide +kernel
theorem dL_law_649 : decode code 649 = .ok (.iconst 1, 1) := by decide +kernel
theorem dL_law_650 : decode code 650 = .ok (.iadd, 1) := by decide +kernel
theorem dL_law_651 : decode code 651 = .ok (.iaload, 1) := by decide +kernel
theorem dL_law_652 : decode code 652 = .ok (.invokevirtual 83, 3) := by decide +kernel
theorem dL_law_655 : decode code 655 = .ok (.if_icmp .eq 153, 3) := by decide +kernel
theorem dL_law_658 : decode code 658 = .ok (.iconst 0, 1) := by decide +kernel
theorem dL_law_659 : decode code 659 = .ok (.ireturn, 1) := by decide +kernel
theorem dL_law_660 : decode code 660 = .ok (.aload_n 1, 1) := by decide +kernel
theorem dL_law_661 : decode code 661 = .ok (.aload_n 0, 1) := by decide +kernel
theorem dL_law_662 : decode code 662 = .ok (.iload_n 3, 1) := by decide +kernel
theorem dL_law_663 : decode code 663 = .ok (.iconst 1, 1) := by decide +kernel
theorem dL_law_664 : decode code 664 = .ok (.iadd, 1) := by decide +kernel
theorem dL_law_665 : decode code 665 = .ok (.iaload, 1) := by decide +kernel
theorem dL_law_666 : decode code 666 = .ok (.aload_n 0, 1) := by decide +kernel
theorem dL_law_667 : decode code 667 = .ok (.iload_n 3, 1) := by decide +kernel
theorem dL_law_668 : decode code 668 = .ok (.iconst 2, 1) := by decide +kernel
theorem dL_law_669 : decode code 669 = .ok (.iadd, 1) := by decide +kernel
theorem dL_law_670 : decode code 670 = .ok (.iaload, 1) := by decide +kernel
theorem dL_law_671 : decode code 671 = .ok (.invokevirtual 84, 3) := by decide +kernel
theorem dL_law_674 : decode code 674 = .ok (.aload_n 2, 1) := by decide +kernel
theorem dL_law_675 : decode code 675 = .ok (.aload_n 0, 1) := by decide +kernel
theorem dL_law_676 : decode code 676 = .ok (.iload_n 3, 1) := by decide +kernel
theorem dL_law_677 : decode code 677 = .ok (.iconst 1, 1) := by decide +kernel
theorem dL_law_678 : decode code 678 = .ok (.iadd, 1) := by decide +kernel
theorem dL_law_679 : decode code 679 = .ok (.iaload, 1) := by decide +kernel
theorem dL_law_680 : decode code 680 = .ok (.aload_n 0, 1) := by decide +kernel
theorem dL_law_681 : decode code 681 = .ok (.iload_n 3, 1) := by decide +kernel
theorem dL_law_682 : decode code 682 = .ok (.iconst 2, 1) := by decide +kernel
theorem dL_law_683 : decode code 683 = .ok (.iadd, 1) := by decide +kernel
theorem dL_law_684 : decode code 684 = .ok (.iaload, 1) := by decide +kernel
theorem dL_law_685 : decode code 685 = .ok (.invokevirtual 87, 3) := by decide +kernel
theorem dL_law_688 : decode code 688 = .ok (.if_icmp .eq 120, 3) := by decide +kernel
theorem dL_law_691 : decode code 691 = .ok (.iconst 0, 1) := by decide +kernel
theorem dL_law_692 : decode code 692 = .ok (.ireturn, 1) := by decide +kernel
theorem dL_law_693 : decode code 693 = .ok (.aload_n 1, 1) := by decide +kernel
theorem dL_law_694 : decode code 694 = .ok (.aload_n 0, 1) := by decide +kernel
theorem dL_law_695 : decode code 695 = .ok (.iload_n 3, 1) := by decide +kernel
theorem dL_law_696 : decode code 696 = .ok (.iconst 1, 1) := by decide +kernel
theorem dL_law_697 : decode code 697 = .ok (.iadd, 1) := by decide +kernel
theorem dL_law_698 : decode code 698 = .ok (.iaload, 1) := by decide +kernel
theorem dL_law_699 : decode code 699 = .ok (.invokevirtual 88, 3) := by decide +kernel
theorem dL_law_702 : decode code 702 = .ok (.aload_n 2, 1) := by decide +kernel
theorem dL_law_703 : decode code 703 = .ok (.aload_n 0, 1) := by decide +kernel
theorem dL_law_704 : decode code 704 = .ok (.iload_n 3, 1) := by decide +kernel
theorem dL_law_705 : decode code 705 = .ok (.iconst 1, 1) := by decide +kernel
theorem dL_law_706 : decode code 706 = .ok (.iadd, 1) := by decide +kernel
theorem dL_law_707 : decode code 707 = .ok (.iaload, 1) := by decide +kernel
theorem dL_law_708 : decode code 708 = .ok (.invokevirtual 91, 3) := by decide +kernel
theorem dL_law_711 : decode code 711 = .ok (.if_icmp .eq 97, 3) := by decide +kernel
theorem dL_law_714 : decode code 714 = .ok (.iconst 0, 1) := by decide +kernel
theorem dL_law_715 : decode code 715 = .ok (.ireturn, 1) := by decide +kernel
theorem dL_law_716 : decode code 716 = .ok (.aload_n 1, 1) := by decide +kernel
theorem dL_law_717 : decode code 717 = .ok (.aload_n 0, 1) := by decide +kernel
theorem dL_law_718 : decode code 718 = .ok (.iload_n 3, 1) := by decide +kernel
theorem dL_law_719 : decode code 719 = .ok (.iconst 1, 1) := by decide +kernel
theorem dL_law_720 : decode code 720 = .ok (.iadd, 1) := by decide +kernel
theorem dL_law_721 : decode code 721 = .ok (.iaload, 1) := by decide +kernel
theorem dL_law_722 : decode code 722 = .ok (.invokevirtual 92, 3) := by decide +kernel
theorem dL_law_725 : decode code 725 = .ok (.aload_n 2, 1) := by decide +kernel
theorem dL_law_726 : decode code 726 = .ok (.aload_n 0, 1) := by decide +kernel
theorem dL_law_727 : decode code 727 = .ok (.iload_n 3, 1) := by decide +kernel
theorem dL_law_728 : decode code 728 = .ok (.iconst 1, 1) := by decide +kernel
theorem dL_law_729 : decode code 729 = .ok (.iadd, 1) := by decide +kernel
theorem dL_law_730 : decode code 730 = .ok (.iaload, 1) := by decide +kernel
theorem dL_law_731 : decode code 731 = .ok (.invokevirtual 95, 3) := by decide +kernel
theorem dL_law_734 : decode code 734 = .ok (.if_icmp .eq 74, 3) := by decide +kernel
theorem dL_law_737 : decode code 737 = .ok (.iconst 0, 1) := by decide +kernel
theorem dL_law_738 : decode code 738 = .ok (.ireturn, 1) := by decide +kernel
theorem dL_law_739 : decode code 739 = .ok (.aload_n 1, 1) := by decide +kernel
theorem dL_law_740 : decode code 740 = .ok (.aload_n 0, 1) := by decide +kernel
theorem dL_law_741 : decode code 741 = .ok (.iload_n 3, 1) := by decide +kernel
theorem dL_law_742 : decode code 742 = .ok (.iconst 1, 1) := by decide +kernel
theorem dL_law_743 : decode code 743 = .ok (.iadd, 1) := by decide +kernel
theorem dL_law_744 : decode code 744 = .ok (.iaload, 1) := by decide +kernel
theorem dL_law_745 : decode code 745 = .ok (.invokevirtual 96, 3) := by decide +kernel
theorem dL_law_748 : decode code 748 = .ok (.aload_n 2, 1) := by decide +kernel
theorem dL_law_749 : decode code 749 = .ok (.aload_n 0, 1) := by decide +kernel
theorem dL_law_750 : decode code 750 = .ok (.iload_n 3, 1) := by decide +kernel
theorem dL_law_751 : decode code 751 = .ok (.iconst 1, 1) := by decide +kernel
theorem dL_law_752 : decode code 752 = .ok (.iadd, 1) := by decide +kernel
theorem dL_law_753 : decode code 753 = .ok (.iaload, 1) := by decide +kernel
theorem dL_law_754 : decode code 754 = .ok (.invokevirtual 99, 3) := by decide +kernel
theorem dL_law_757 : decode code 757 = .ok (.if_icmp .eq 51, 3) := by decide +kernel
theorem dL_law_760 : decode code 760 = .ok (.iconst 0, 1) := by decide +kernel
theorem dL_law_761 : decode code 761 = .ok (.ireturn, 1) := by decide +kernel
theorem dL_law_762 : decode code 762 = .ok (.aload_n 1, 1) := by decide +kernel
theorem dL_law_763 : decode code 763 = .ok (.aload_n 0, 1) := by decide +kernel
theorem dL_law_764 : decode code 764 = .ok (.iload_n 3, 1) := by decide +kernel
theorem dL_law_765 : decode code 765 = .ok (.iconst 1, 1) := by decide +kernel
theorem dL_law_766 : decode code 766 = .ok (.iadd, 1) := by decide +kernel
theorem dL_law_767 : decode code 767 = .ok (.iaload, 1) := by decide +kernel
theorem dL_law_768 : decode code 768 = .ok (.invokevirtual 100, 3) := by decide +kernel
theorem dL_law_771 : decode code 771 = .ok (.aload_n 2, 1) := by decide +kernel
theorem dL_law_772 : decode code 772 = .ok (.aload_n 0, 1) := by decide +kernel
theorem dL_law_773 : decode code 773 = .ok (.iload_n 3, 1) := by decide +kernel
theorem dL_law_774 : decode code 774 = .ok (.iconst 1, 1) := by decide +kernel
theorem dL_law_775 : decode code 775 = .ok (.iadd, 1) := by decide +kernel
theorem dL_law_776 : decode code 776 = .ok (.iaload, 1) := by decide +kernel
theorem dL_law_777 : decode code 777 = .ok (.invokevirtual 103, 3) := by decide +kernel
theorem dL_law_780 : decode code 780 = .ok (.if_icmp .eq 28, 3) := by decide +kernel
theorem dL_law_783 : decode code 783 = .ok (.iconst 0, 1) := by decide +kernel
theorem dL_law_784 : decode code 784 = .ok (.ireturn, 1) := by decide +kernel
theorem dL_law_785 : decode code 785 = .ok (.aload_n 1, 1) := by decide +kernel
theorem dL_law_786 : decode code 786 = .ok (.aload_n 0, 1) := by decide +kernel
theorem dL_law_787 : decode code 787 = .ok (.iload_n 3, 1) := by decide +kernel
theorem dL_law_788 : decode code 788 = .ok (.iconst 1, 1) := by decide +kernel
theorem dL_law_789 : decode code 789 = .ok (.iadd, 1) := by decide +kernel
theorem dL_law_790 : decode code 790 = .ok (.iaload, 1) := by decide +kernel
theorem dL_law_791 : decode code 791 = .ok (.invokevirtual 104, 3) := by decide +kernel
theorem dL_law_794 : decode code 794 = .ok (.aload_n 2, 1) := by decide +kernel
theorem dL_law_795 : decode code 795 = .ok (.aload_n 0, 1) := by decide +kernel
theorem dL_law_796 : decode code 796 = .ok (.iload_n 3, 1) := by decide +kernel
theorem dL_law_797 : decode code 797 = .ok (.iconst 1, 1) := by decide +kernel
theorem dL_law_798 : decode code 798 = .ok (.iadd, 1) := by decide +kernel
theorem dL_law_799 : decode code 799 = .ok (.iaload, 1) := by decide +kernel
theorem dL_law_800 : decode code 800 = .ok (.invokevirtual 107, 3) := by decide +kernel
theorem dL_law_803 : decode code 803 = .ok (.if_icmp .eq 5, 3) := by decide +kernel
theorem dL_law_806 : decode code 806 = .ok (.iconst 0, 1) := by decide +kernel
theorem dL_law_807 : decode code 807 = .ok (.ireturn, 1) := by decide +kernel
theorem dL_law_808 : decode code 808 = .ok (.iinc 3 6, 3) := by decide +kernel
theorem dL_law_811 : decode code 811 = .ok (.goto (-793), 3) := by decide +kernel
theorem dL_law_814 : decode code 814 = .ok (.iconst 1, 1) := by decide +kernel
theorem dL_law_815 : decode code 815 = .ok (.ireturn, 1) := by decide +kernel
theorem tabout22_0 {x : Int32} (h0 : ¬ x = 0) (h1 : ¬ x = 1) (h2 : ¬ x = 2) (h3 : ¬ x = 3) (h4 : ¬ x = 4) (h5 : ¬ x = 5) (h6 : ¬ x = 6) (h7 : ¬ x = 7) (h8 : ¬ x = 8) (h9 : ¬ x = 9) (h10 : ¬ x = 10) (h11 : ¬ x = 11) (h12 : ¬ x = 12) (h13 : ¬ x = 13) (h14 : ¬ x = 14) (h15 : ¬ x = 15) (h16 : ¬ x = 16) (h17 : ¬ x = 17) (h18 : ¬ x = 18) (h19 : ¬ x = 19) (h20 : ¬ x = 20) (h21 : ¬ x = 21) : x.toInt < 0 ∨ 21 < x.toInt := by
  have q0 := lv_neT (a := 0) h0 (by decide)
  have q1 := lv_neT (a := 1) h1 (by decide)
  have q2 := lv_neT (a := 2) h2 (by decide)
  have q3 := lv_neT (a := 3) h3 (by decide)
  have q4 := lv_neT (a := 4) h4 (by decide)
  have q5 := lv_neT (a := 5) h5 (by decide)
  have q6 := lv_neT (a := 6) h6 (by decide)
  have q7 := lv_neT (a := 7) h7 (by decide)
  have q8 := lv_neT (a := 8) h8 (by decide)
  have q9 := lv_neT (a := 9) h9 (by decide)
  have q10 := lv_neT (a := 10) h10 (by decide)
  have q11 := lv_neT (a := 11) h11 (by decide)
  have q12 := lv_neT (a := 12) h12 (by decide)
  have q13 := lv_neT (a := 13) h13 (by decide)
  have q14 := lv_neT (a := 14) h14 (by decide)
  have q15 := lv_neT (a := 15) h15 (by decide)
  have q16 := lv_neT (a := 16) h16 (by decide)
  have q17 := lv_neT (a := 17) h17 (by decide)
  have q18 := lv_neT (a := 18) h18 (by decide)
  have q19 := lv_neT (a := 19) h19 (by decide)
  have q20 := lv_neT (a := 20) h20 (by decide)
  have q21 := lv_neT (a := 21) h21 (by decide)
  omega
section OwnRows3
variable {p : Program} {l : Launch} {e : Env} {R : Room} {s : State} {m : MethodId} {args : Array Value} {below : List Frame} {meth : Method} {c : Code} {H : Heap} {locs : List Loc} {cells slots : Nat} {Q : State → Prop} {pc : Nat} {ls : Array Slot} {rest : List Value} {cc : ByteArray} {D : va_G} {A : Nat → Prop} {H0 : Heap} {ws wc wr : va_W} {w1 ws' : Nat → va_W} {st0 : List Value} {a : Array Value} {r0 : Int32} {mc ms ra : Nat}
theorem k_callidc (hr : va_Run p l e R s m args below meth c H locs cells slots mc ms (F0 m pc ls st0) rest (QId D (va_A wc H.size) r0 w1 a) (va_A wc H.size)) (hP : va_P D vwCl ws H) (hD : va_D A ws) (hS : va_S A H0 H locs) (hA : ∀ q, H0.size ≤ q → A q) (isC isR pm : List Nat) (hC : isC.map (fun i => ws[i]?) = wc.map some) (hR : isR.map (fun i => ws[i]?) = wr.map some) (hn : va_nd isR = true) (hdis : ∀ i ∈ isR, i ∉ isC) (hpn : va_nd pm = true) (hpm : ∀ u, pm.map (fun i => (wr ++ w1 u)[i]?) = (ws' u).map some)
    (kk : ∀ (u : Nat) (H1 : Heap) (locs1 : List Loc), va_P D vwCl (ws' u) H1 → va_D A (ws' u) → va_S A H0 H1 locs1 → W p l e R s m args below meth c H1 locs1 (cells + mc) (slots + ms) Q (F0 m (pc + 3) ls (.int r0 :: rest))) : W p l e R s m args below meth c H locs cells slots Q (F0 m pc ls st0) := by
  have hF := va_free (wc := wc) hD hS hA isC hC
  refine va_calli hr hS (fun q _ h => hF q h) hF (fun r u t H1 locs1 ht hvm hw hB hz1 hk1 hS1 => ?_)
  subst hw
  obtain ⟨hP1, hD1⟩ := hB
  rw [ht] at hP1
  obtain ⟨hP2, hD2⟩ := va_join (wr := wr) (w1 := w1 u) hP hD isC isR hC hR hn hdis hk1 hF hP1 hD1
  exact kk u H1 locs1 (hP2.sub pm (fm_of (hpm u))) (hD2.sub pm hpn (hpm u)) hS1
end OwnRows3
abbrev wL (oa tra tra1 tra2 tra3 tia tia1 tia2 tia3 rua rua1 rua2 rua3 rua4 cha cha1 cha2 cha3 foa foa1 foa2 sba m_a m_there_a m_now_a m_kinds_a m_targets_a m_predicates_a m_numbers_a m_puts_a m_codes_a m_weights_a m_sets_a m_picks_a m_classes_a m_steps_a m_told_a : Nat) (cI cZ cB cC : ClassId) (ocs : Int32) (oal : Int32) (olt : Int32) (ols : Int32) (trso : Int32) (trob : Nat → Int32) (trme : Nat → Int32) (trwi : Nat → Int32) (tiso : Int32) (tiob : Nat → Int32) (time : Nat → Int32) (tiwi : Nat → Int32) (run : Int32) (ruki : Nat → Int32) (ruta : Nat → Int32) (rupr : Nat → Int32) (runu : Nat → Int32) (chn : Int32) (chpu : Nat → Int32) (chco : Nat → Int32) (chwe : Nat → Int32) (fon : Int32) (fose : Nat → Int32) (fosu : Nat → Int32) (sbco : Int32) (sbml : Int32) (sbct : Int32) (sb_ad : Nat) (sbn : Nat) (sbb : Nat → Int32) (m_rules : Int32) (m_changes : Int32) (m_mostTries : Int32) (m_tried : Int32) (m_settled : Int32) (m_found : Int32) (m_isCovered : Int32) (m_covered : Int32) (m_toldMany : Int32) (m_there : Nat → Int32) (m_now : Nat → Int32) (m_kinds : Nat → Int32) (m_targets : Nat → Int32) (m_predicates : Nat → Int32) (m_numbers : Nat → Int32) (m_puts : Nat → Int32) (m_codes : Nat → Int32) (m_weights : Nat → Int32) (m_sets : Nat → Int32) (m_picks : Nat → Int32) (m_classes : Nat → Int32) (m_steps : Nat → Int32) (m_told : Nat → Int32) : va_W := [(oa, .inr (0, [.ref tra, .ref tia, .ref rua, .ref cha, .ref foa, .ref sba, .int ocs, .int oal, .int olt, .int ols])), (tra, .inr (1, [.ref tra1, .ref tra2, .ref tra3, .int trso])), (tra1, .inl (cI, 72, .inl trob)), (tra2, .inl (cI, 12, .inl trme)), (tra3, .inl (cI, 12, .inl trwi)), (tia, .inr (1, [.ref tia1, .ref tia2, .ref tia3, .int tiso])), (tia1, .inl (cI, 72, .inl tiob)), (tia2, .inl (cI, 12, .inl time)), (tia3, .inl (cI, 12, .inl tiwi)), (rua, .inr (2, [.ref rua1, .ref rua2, .ref rua3, .ref rua4, .int run])), (rua1, .inl (cI, 10, .inl ruki)), (rua2, .inl (cI, 10, .inl ruta)), (rua3, .inl (cI, 10, .inl rupr)), (rua4, .inl (cI, 10, .inl runu)), (cha, .inr (3, [.ref cha1, .ref cha2, .ref cha3, .int chn])), (cha1, .inl (cZ, 12, .inl chpu)), (cha2, .inl (cI, 12, .inl chco)), (cha3, .inl (cI, 12, .inl chwe)), (foa, .inr (4, [.ref foa1, .ref foa2, .int fon])), (foa1, .inl (cI, 30, .inl fose)), (foa2, .inl (cI, 30, .inl fosu)), (sba, .inr (6, [.ref sb_ad, .int sbco, .int sbml, .int sbct])), (sb_ad, .inl (cB, sbn, .inl sbb)), (m_a, .inr (5, [.ref m_there_a, .ref m_now_a, .int m_rules, .ref m_kinds_a, .ref m_targets_a, .ref m_predicates_a, .ref m_numbers_a, .int m_changes, .ref m_puts_a, .ref m_codes_a, .ref m_weights_a, .int m_mostTries, .int m_tried, .int m_settled, .int m_found, .ref m_sets_a, .int m_isCovered, .int m_covered, .ref m_picks_a, .ref m_classes_a, .ref m_steps_a, .ref m_told_a, .int m_toldMany])), (m_there_a, .inl (cZ, 864, .inl m_there)), (m_now_a, .inl (cZ, 864, .inl m_now)), (m_kinds_a, .inl (cI, 10, .inl m_kinds)), (m_targets_a, .inl (cI, 10, .inl m_targets)), (m_predicates_a, .inl (cI, 10, .inl m_predicates)), (m_numbers_a, .inl (cI, 10, .inl m_numbers)), (m_puts_a, .inl (cZ, 12, .inl m_puts)), (m_codes_a, .inl (cI, 12, .inl m_codes)), (m_weights_a, .inl (cI, 12, .inl m_weights)), (m_sets_a, .inl (cI, 31, .inl m_sets)), (m_picks_a, .inl (cI, 12, .inl m_picks)), (m_classes_a, .inl (cZ, 12, .inl m_classes)), (m_steps_a, .inl (cI, 12, .inl m_steps)), (m_told_a, .inl (cI, 400, .inl m_told))]
