theorem wdt1_19 : Cond.instantiable "ReportCauses" 10 ∈ ALLW := wt1 (List.mem_of_getElem? (i := 19) (by decide +kernel)) rfl
theorem wdt3_181 : Cond.instantiable "ReportCausesModel" 23 ∈ ALLW := wt3 (List.mem_of_getElem? (i := 181) (by decide +kernel)) rfl
theorem wdt3_130 : Cond.laysStatic "java/lang/Integer" "DigitOnes" "[B" ∈ ALLW := wt3 (List.mem_of_getElem? (i := 130) (by decide +kernel)) rfl
theorem wdt3_132 : Cond.laysStatic "java/lang/Integer" "DigitTens" "[B" ∈ ALLW := wt3 (List.mem_of_getElem? (i := 132) (by decide +kernel)) rfl
theorem wdt1_121 : Cond.laysStatic "java/lang/String" "COMPACT_STRINGS" "Z" ∈ ALLW := wt1 (List.mem_of_getElem? (i := 121) (by decide +kernel)) rfl
theorem wdt3_53 : Cond.laysStatic "jdk/internal/util/Preconditions" "SIOOBE_FORMATTER" "Ljava/util/function/BiFunction;" ∈ ALLW := wt3 (List.mem_of_getElem? (i := 53) (by decide +kernel)) rfl
theorem wdt1_18 : Cond.classLink "ReportCausesLaw" 7 "ReportCauses" ∈ ALLW := wt1 (List.mem_of_getElem? (i := 18) (by decide +kernel)) rfl
theorem wdt1_20 : Cond.methodLink "ReportCausesLaw" 9 yK0_init ∈ ALLW := wt1 (List.mem_of_getElem? (i := 20) (by decide +kernel)) rfl
theorem wdt1_21 : Cond.instanceMethod yK0_init ∈ ALLW := wt1 (List.mem_of_getElem? (i := 21) (by decide +kernel)) rfl
theorem wdt3_180 : Cond.classLink "ReportCausesLaw" 10 "ReportCausesModel" ∈ ALLW := wt3 (List.mem_of_getElem? (i := 180) (by decide +kernel)) rfl
theorem wdt3_182 : Cond.methodLink "ReportCausesLaw" 12 yK5_init ∈ ALLW := wt3 (List.mem_of_getElem? (i := 182) (by decide +kernel)) rfl
theorem wdt3_183 : Cond.instanceMethod yK5_init ∈ ALLW := wt3 (List.mem_of_getElem? (i := 183) (by decide +kernel)) rfl
theorem lt1 {w : Cond} (h : w ∈ tables_1_1) : w ∈ lw_tbl := List.mem_append_right _ (show w ∈ tables_1 from List.mem_append_left _ h)
theorem lt2 {w : Cond} (h : w ∈ tables_1_2) : w ∈ lw_tbl := List.mem_append_right _ (show w ∈ tables_1 from List.mem_append_right _ (List.mem_append_left _ h))
theorem lt3 {w : Cond} (h : w ∈ tables_1_3) : w ∈ lw_tbl := List.mem_append_right _ (show w ∈ tables_1 from List.mem_append_right _ (List.mem_append_right _ (List.mem_append_left _ h)))
theorem lt4 {w : Cond} (h : w ∈ tables_1_4) : w ∈ lw_tbl := List.mem_append_right _ (show w ∈ tables_1 from List.mem_append_right _ (List.mem_append_right _ (List.mem_append_right _ (h))))
theorem lw_in {w : Cond} (h : w ∈ ALLW) : w ∈ lw_tbl := (List.mem_filter.mp h).1
theorem nest_in : ∀ w ∈ nestW, w ∈ lw_tbl := by
  intro w h
  simp only [nestW, List.mem_cons, List.not_mem_nil, or_false] at h
  rcases h with rfl | rfl | rfl | rfl | rfl | rfl | rfl | rfl | rfl | rfl | rfl
  · exact lt1 (List.mem_of_getElem? (i := 53) (by decide +kernel))
  · exact lt1 (List.mem_of_getElem? (i := 55) (by decide +kernel))
  · exact lt1 (List.mem_of_getElem? (i := 57) (by decide +kernel))
  · exact lt1 (List.mem_of_getElem? (i := 59) (by decide +kernel))
  · exact lt1 (List.mem_of_getElem? (i := 61) (by decide +kernel))
  · exact lt1 (List.mem_of_getElem? (i := 83) (by decide +kernel))
  · exact lt1 (List.mem_of_getElem? (i := 103) (by decide +kernel))
  · exact lt1 (List.mem_of_getElem? (i := 199) (by decide +kernel))
  · exact lt2 (List.mem_of_getElem? (i := 17) (by decide +kernel))
  · exact lt2 (List.mem_of_getElem? (i := 66) (by decide +kernel))
  · exact lt2 (List.mem_of_getElem? (i := 146) (by decide +kernel))
theorem start_N {args : Array Value} {s : State} (hts : ∀ w ∈ lw_tbl, w.before args s = true) : NW s := fun w hw => va_Nw.of (isNest_tab (nestW_is w hw)) (hts w (nest_in w hw))
theorem sel_priv {C : String} {x y : MethodName} {s : State} {args : Array Value} (hcls : y.cls = x.cls) (hy : y.cls ≠ "java/lang/invoke/MethodHandle" ∧ y.cls ≠ "java/lang/invoke/VarHandle") (hx : (Cond.selects C x x).before args s = true) (hpriv : (Cond.privateMethod y).before args s = true) (hinst : (Cond.instanceMethod y).before args s = true) : (Cond.selects C y y).before args s = true := by
  obtain ⟨c2, r2, m2, q1, q2, q3, q4, kP, hkP, hkPi⟩ := Cond.selects_spec hx
  obtain ⟨mk, methM, hnamed, hmethM, -, -⟩ := Cond.instanceMethod_spec hinst
  have hfound : s.methodFound? y.cls y.name y.desc = some mk := State.methodFound?_of_named hnamed hy
  have hsel : selectMethod {} s.vm c2 mk = .method mk := selectMethod_private hmethM (Cond.privateMethod_at hpriv mk methM hnamed hmethM)
  have e0 : r2 = m2 := Option.some.inj (q2.symm.trans (State.methodFound?_of_named q3 (by rw [← hcls]; exact hy)))
  have e1 : mk.cls = m2.cls := Option.some.inj ((findClass_of_methodNamed hnamed).symm.trans (by rw [hcls]; exact findClass_of_methodNamed q3))
  have hk2 : s.vm.classes[mk.cls]? = some kP := by
    rw [e1]
    first | exact hkP | (rw [← e0]; exact hkP)
  simp only [Cond.before, Cond.holds, Cond.value, q1, hfound, hnamed, hsel, hk2]
  simp
  exact hkPi
theorem start_sel {args : Array Value} {s : State} (hts : ∀ w ∈ lw_tbl, w.before args s = true) : ∀ w ∈ sbSel, w.before args s = true := by
  intro w h
  simp only [sbSel, List.mem_cons, List.not_mem_nil, or_false] at h
  rcases h with rfl | rfl | rfl | rfl | rfl | rfl
  · exact sel_priv (x := yJ1_isLatin1) rfl (by decide +kernel) (hts _ (lt3 (List.mem_of_getElem? (i := 6) (by decide +kernel)))) (hts _ (lt2 (List.mem_of_getElem? (i := 213) (by decide +kernel)))) (hts _ (lt2 (List.mem_of_getElem? (i := 214) (by decide +kernel))))
  · exact sel_priv (x := yJ1_isLatin1) rfl (by decide +kernel) (hts _ (lt3 (List.mem_of_getElem? (i := 6) (by decide +kernel)))) (hts _ (lt2 (List.mem_of_getElem? (i := 217) (by decide +kernel)))) (hts _ (lt2 (List.mem_of_getElem? (i := 218) (by decide +kernel))))
  · exact sel_priv (x := yJ1_isLatin1) rfl (by decide +kernel) (hts _ (lt3 (List.mem_of_getElem? (i := 6) (by decide +kernel)))) (hts _ (lt3 (List.mem_of_getElem? (i := 37) (by decide +kernel)))) (hts _ (lt3 (List.mem_of_getElem? (i := 38) (by decide +kernel))))
  · exact sel_priv (x := yJ1_isLatin1) rfl (by decide +kernel) (hts _ (lt3 (List.mem_of_getElem? (i := 6) (by decide +kernel)))) (hts _ (lt3 (List.mem_of_getElem? (i := 76) (by decide +kernel)))) (hts _ (lt3 (List.mem_of_getElem? (i := 77) (by decide +kernel))))
  · exact sel_priv (x := yJ1_isLatin1) rfl (by decide +kernel) (hts _ (lt3 (List.mem_of_getElem? (i := 6) (by decide +kernel)))) (hts _ (lt3 (List.mem_of_getElem? (i := 80) (by decide +kernel)))) (hts _ (lt3 (List.mem_of_getElem? (i := 81) (by decide +kernel))))
  · exact sel_priv (x := yJ1_isLatin1) rfl (by decide +kernel) (hts _ (lt3 (List.mem_of_getElem? (i := 6) (by decide +kernel)))) (hts _ (lt3 (List.mem_of_getElem? (i := 85) (by decide +kernel)))) (hts _ (lt3 (List.mem_of_getElem? (i := 86) (by decide +kernel))))
theorem start_ts {args : Array Value} {s : State} (hts : ∀ w ∈ lw_tbl, w.before args s = true) : ∀ w ∈ ALLW2, w.before args s = true := fun w h => (List.mem_append.mp h).elim (start_sel hts w) (fun h => hts w (lw_in h))
theorem arr_K {args : Array Value} {s : State} {ty : FieldType} (hp : refKind ty = false) (h : (Cond.arrayClass ty).before args s = true) : ∃ cA : ClassId, ArrOfT s cA ty ∧ va_RA s cA ty := by
  obtain ⟨cA, kA, comp, hfind, hk, hkind⟩ := Cond.arrayClass_spec h
  refine ⟨cA, fun n z => ⟨fun k h => (by cases h), kA, hk, comp, hkind⟩, ?_⟩
  cases ty <;> first | exact hfind | cases hp
theorem start_K {args : Array Value} {s : State} (hts : ∀ w ∈ ALLW2, w.before args s = true) : ∃ (D : va_G) (cI cZ cB : ClassId), va_K D vwCl (tyL cI cZ cB cI) s := by
  obtain ⟨c0, i0, h0⟩ := u_known (C := RK0) (T := TK0) (N := 10) (n := 10) hts inK0b (hts _ (up wdt1_19))
  obtain ⟨c1, i1, h1⟩ := u_known (C := RK1) (T := TK1) (N := 4) (n := 4) hts inK1b (hts _ (up wdt1_27))
  obtain ⟨c2, i2, h2⟩ := u_known (C := RK2) (T := TK2) (N := 5) (n := 5) hts inK2b (hts _ (up wdt1_47))
  obtain ⟨c3, i3, h3⟩ := u_known (C := RK3) (T := TK3) (N := 4) (n := 4) hts inK3b (hts _ (up wdt1_74))
  obtain ⟨c4, i4, h4⟩ := u_known (C := RK4) (T := TK4) (N := 3) (n := 3) hts inK4b (hts _ (up wdt1_95))
  obtain ⟨c5, i5, h5⟩ := u_known (C := RK5) (T := TK5) (N := 23) (n := 23) hts inK5b (hts _ (up wdt3_181))
  obtain ⟨c6, i6, h6⟩ := u_known (C := RK6) (T := TK6) (N := 4) (n := 4) hts inK6b (hts _ (up wdt1_112))
  obtain ⟨cI, acI, rcI⟩ := arr_K (ty := .int) rfl (hts _ (up wdt1_45))
  obtain ⟨cZ, acZ, rcZ⟩ := arr_K (ty := .boolean) rfl (hts _ (up wdt1_93))
  obtain ⟨cB, acB, rcB⟩ := arr_K (ty := .byte) rfl (hts _ (up wdt1_142))
  refine ⟨(fun k => [c0, c1, c2, c3, c4, c5, c6].getD k c0, fun k => [i0, i1, i2, i3, i4, i5, i6].getD k i0), cI, cZ, cB, ?_, ?_⟩
  · intro k q hq
    match k, hq with
    | 0, hq => cases hq; exact h0
    | 1, hq => cases hq; exact h1
    | 2, hq => cases hq; exact h2
    | 3, hq => cases hq; exact h3
    | 4, hq => cases hq; exact h4
    | 5, hq => cases hq; exact h5
    | 6, hq => cases hq; exact h6
    | k + 7, hq => simp [vwCl] at hq
  · intro k q hq
    match k, hq with
    | 0, hq => cases hq; exact ⟨acI, rcI⟩
    | 1, hq => cases hq; exact ⟨acZ, rcZ⟩
    | 2, hq => cases hq; exact ⟨acB, rcB⟩
    | k + 3, hq => simp [tyL] at hq
theorem dgO_in : ∀ j, j < 100 → Cond.eq (.elem (.static "java/lang/Integer" "DigitOnes" "[B") (.int (Int32.ofNat j))) (.int (dgO j)) ∈ flatC (Jvm.Cond.and given_1 narrow_1) := by decide +kernel
theorem dgT_in : ∀ j, j < 100 → Cond.eq (.elem (.static "java/lang/Integer" "DigitTens" "[B") (.int (Int32.ofNat j))) (.int (dgT j)) ∈ flatC (Jvm.Cond.and given_1 narrow_1) := by decide +kernel
theorem start_E {args : Array Value} {s : State} {A : Nat → Prop} (hts0 : ∀ w ∈ lw_tbl, w.before args s = true) (hts : ∀ w ∈ ALLW2, w.before args s = true) (hs : ∀ c ∈ flatC (Jvm.Cond.and given_1 narrow_1), c.before args s = true) (hA : ∀ a : Nat, a < s.heap.size → ¬ A a) : EN A s s.heap := by
  have hDigitOnes : ∃ d : Nat, va_Z "java/lang/Integer" "DigitOnes" "[B" (.ref d) A s s.heap ∧ va_T .byte d 100 (fun j => .int (dgO j)) A s s.heap := by
    obtain ⟨t, ht, hT⟩ := va_Tof (args := args) (s := s) (tm := .static "java/lang/Integer" "DigitOnes" "[B") (ty := .byte) (N := 100) (f := fun j => .int (dgO j)) (A := A) (by decide) (hs (Cond.arrayOf (.static "java/lang/Integer" "DigitOnes" "[B") .byte) (by decide +kernel)) (va_eqt (hs (Cond.eq (.length (.static "java/lang/Integer" "DigitOnes" "[B")) (.int 100)) (by decide +kernel))) (fun j hj => va_eqt (hs _ (dgO_in j hj))) hA
    exact ⟨t, va_Zref (hts _ (up wdt3_130)) (hts _ (up wdt1_12)) ht hA, hT⟩
  have hDigitTens : ∃ d : Nat, va_Z "java/lang/Integer" "DigitTens" "[B" (.ref d) A s s.heap ∧ va_T .byte d 100 (fun j => .int (dgT j)) A s s.heap := by
    obtain ⟨t, ht, hT⟩ := va_Tof (args := args) (s := s) (tm := .static "java/lang/Integer" "DigitTens" "[B") (ty := .byte) (N := 100) (f := fun j => .int (dgT j)) (A := A) (by decide) (hs (Cond.arrayOf (.static "java/lang/Integer" "DigitTens" "[B") .byte) (by decide +kernel)) (va_eqt (hs (Cond.eq (.length (.static "java/lang/Integer" "DigitTens" "[B")) (.int 100)) (by decide +kernel))) (fun j hj => va_eqt (hs _ (dgT_in j hj))) hA
    exact ⟨t, va_Zref (hts _ (up wdt3_132)) (hts _ (up wdt1_12)) ht hA, hT⟩
  have hi3 : ∀ {P : Nat → Prop}, P 0 → P 1 → P 2 → ∀ i : Nat, i < 3 → P i := fun h0 h1 h2 i hi => by
    match i, hi with
    | 0, _ => exact h0
    | 1, _ => exact h1
    | 2, _ => exact h2
  obtain ⟨adK, adV, hSS, hev⟩ := vk_Sof (args := args) (s := s) (N := 3) (tm := fun i => match i with | 0 => Term.string "ReportCauses" 186 | 1 => Term.string "ReportCauses$Changes" 36 | _ => Term.string "ReportCauses$Changes" 38) (len := [2, 4, 5]) (byt := [[44, 32], [112, 117, 116, 32], [116, 97, 107, 101, 32]]) (A := A) (hi3 (by decide) (by decide) (by decide)) (hi3 (hs (Cond.exactly (.string "ReportCauses" 186) "java/lang/String") (by decide +kernel)) (hs (Cond.exactly (.string "ReportCauses$Changes" 36) "java/lang/String") (by decide +kernel)) (hs (Cond.exactly (.string "ReportCauses$Changes" 38) "java/lang/String") (by decide +kernel))) (hi3 (hs (Cond.eq (.field (.string "ReportCauses" 186) "java/lang/String" "coder" "B") (.int 0)) (by decide +kernel)) (hs (Cond.eq (.field (.string "ReportCauses$Changes" 36) "java/lang/String" "coder" "B") (.int 0)) (by decide +kernel)) (hs (Cond.eq (.field (.string "ReportCauses$Changes" 38) "java/lang/String" "coder" "B") (.int 0)) (by decide +kernel))) (hi3 (hs (Cond.arrayOf (.field (.string "ReportCauses" 186) "java/lang/String" "value" "[B") .byte) (by decide +kernel)) (hs (Cond.arrayOf (.field (.string "ReportCauses$Changes" 36) "java/lang/String" "value" "[B") .byte) (by decide +kernel)) (hs (Cond.arrayOf (.field (.string "ReportCauses$Changes" 38) "java/lang/String" "value" "[B") .byte) (by decide +kernel))) (hi3 (hs (Cond.eq (.length (.field (.string "ReportCauses" 186) "java/lang/String" "value" "[B")) (.int 2)) (by decide +kernel)) (hs (Cond.eq (.length (.field (.string "ReportCauses$Changes" 36) "java/lang/String" "value" "[B")) (.int 4)) (by decide +kernel)) (hs (Cond.eq (.length (.field (.string "ReportCauses$Changes" 38) "java/lang/String" "value" "[B")) (.int 5)) (by decide +kernel)))
    (hi3 (fun j hj => by have hj : j < 2 := hj; match j, hj with | 0, _ => exact hs (Cond.eq (.elem (.field (.string "ReportCauses" 186) "java/lang/String" "value" "[B") (.int 0)) (.int 44)) (by decide +kernel) | 1, _ => exact hs (Cond.eq (.elem (.field (.string "ReportCauses" 186) "java/lang/String" "value" "[B") (.int 1)) (.int 32)) (by decide +kernel)) (fun j hj => by have hj : j < 4 := hj; match j, hj with | 0, _ => exact hs (Cond.eq (.elem (.field (.string "ReportCauses$Changes" 36) "java/lang/String" "value" "[B") (.int 0)) (.int 112)) (by decide +kernel) | 1, _ => exact hs (Cond.eq (.elem (.field (.string "ReportCauses$Changes" 36) "java/lang/String" "value" "[B") (.int 1)) (.int 117)) (by decide +kernel) | 2, _ => exact hs (Cond.eq (.elem (.field (.string "ReportCauses$Changes" 36) "java/lang/String" "value" "[B") (.int 2)) (.int 116)) (by decide +kernel) | 3, _ => exact hs (Cond.eq (.elem (.field (.string "ReportCauses$Changes" 36) "java/lang/String" "value" "[B") (.int 3)) (.int 32)) (by decide +kernel)) (fun j hj => by have hj : j < 5 := hj; match j, hj with | 0, _ => exact hs (Cond.eq (.elem (.field (.string "ReportCauses$Changes" 38) "java/lang/String" "value" "[B") (.int 0)) (.int 116)) (by decide +kernel) | 1, _ => exact hs (Cond.eq (.elem (.field (.string "ReportCauses$Changes" 38) "java/lang/String" "value" "[B") (.int 1)) (.int 97)) (by decide +kernel) | 2, _ => exact hs (Cond.eq (.elem (.field (.string "ReportCauses$Changes" 38) "java/lang/String" "value" "[B") (.int 2)) (.int 107)) (by decide +kernel) | 3, _ => exact hs (Cond.eq (.elem (.field (.string "ReportCauses$Changes" 38) "java/lang/String" "value" "[B") (.int 3)) (.int 101)) (by decide +kernel) | 4, _ => exact hs (Cond.eq (.elem (.field (.string "ReportCauses$Changes" 38) "java/lang/String" "value" "[B") (.int 4)) (.int 32)) (by decide +kernel)))
    (fun i j hi hj hne => by
      match i, j, hi, hj, hne with
      | 0, 0, _, _, hne => exact absurd rfl hne
      | 0, 1, _, _, hne => first | exact Or.inl (hs (Cond.not (Cond.eq (.string "ReportCauses" 186) (.string "ReportCauses$Changes" 36))) (by decide +kernel)) | exact Or.inr (hs (Cond.not (Cond.eq (.string "ReportCauses$Changes" 36) (.string "ReportCauses" 186))) (by decide +kernel))
      | 0, 2, _, _, hne => first | exact Or.inl (hs (Cond.not (Cond.eq (.string "ReportCauses" 186) (.string "ReportCauses$Changes" 38))) (by decide +kernel)) | exact Or.inr (hs (Cond.not (Cond.eq (.string "ReportCauses$Changes" 38) (.string "ReportCauses" 186))) (by decide +kernel))
      | 1, 0, _, _, hne => first | exact Or.inl (hs (Cond.not (Cond.eq (.string "ReportCauses$Changes" 36) (.string "ReportCauses" 186))) (by decide +kernel)) | exact Or.inr (hs (Cond.not (Cond.eq (.string "ReportCauses" 186) (.string "ReportCauses$Changes" 36))) (by decide +kernel))
      | 1, 1, _, _, hne => exact absurd rfl hne
      | 1, 2, _, _, hne => first | exact Or.inl (hs (Cond.not (Cond.eq (.string "ReportCauses$Changes" 36) (.string "ReportCauses$Changes" 38))) (by decide +kernel)) | exact Or.inr (hs (Cond.not (Cond.eq (.string "ReportCauses$Changes" 38) (.string "ReportCauses$Changes" 36))) (by decide +kernel))
      | 2, 0, _, _, hne => first | exact Or.inl (hs (Cond.not (Cond.eq (.string "ReportCauses$Changes" 38) (.string "ReportCauses" 186))) (by decide +kernel)) | exact Or.inr (hs (Cond.not (Cond.eq (.string "ReportCauses" 186) (.string "ReportCauses$Changes" 38))) (by decide +kernel))
      | 2, 1, _, _, hne => first | exact Or.inl (hs (Cond.not (Cond.eq (.string "ReportCauses$Changes" 38) (.string "ReportCauses$Changes" 36))) (by decide +kernel)) | exact Or.inr (hs (Cond.not (Cond.eq (.string "ReportCauses$Changes" 36) (.string "ReportCauses$Changes" 38))) (by decide +kernel))
      | 2, 2, _, _, hne => exact absurd rfl hne) hA
  exact ⟨va_Zof (hts _ (up wdt1_121)) (hts _ (up wdt1_8)) (va_eqi (hs (Cond.eq (.static "java/lang/String" "COMPACT_STRINGS" "Z") (.int 1)) (by decide +kernel))) hA, hDigitOnes, hDigitTens, va_Zqof (hts _ (up wdt3_53)) (hts _ (up wdt1_17)) (hs (Cond.isRef (.static "jdk/internal/util/Preconditions" "SIOOBE_FORMATTER" "Ljava/util/function/BiFunction;")) (by decide +kernel)) hA, ⟨adK 0, adV 0, vk_R.of (hts0 (Cond.stringRef "ReportCauses" 186 ", ") (lt3 (List.mem_of_getElem? (i := 28) (by decide +kernel)))) (hev 0 (by decide)), (hSS.1 0 (by decide)).1, (hSS.1 0 (by decide)).2.2.1, (hSS.1 0 (by decide)).2.1, (hSS.1 0 (by decide)).2.2.2⟩, ⟨adK 1, adV 1, vk_R.of (hts0 (Cond.stringRef "ReportCauses$Changes" 36 "put ") (lt3 (List.mem_of_getElem? (i := 113) (by decide +kernel)))) (hev 1 (by decide)), (hSS.1 1 (by decide)).1, (hSS.1 1 (by decide)).2.2.1, (hSS.1 1 (by decide)).2.1, (hSS.1 1 (by decide)).2.2.2⟩, ⟨adK 2, adV 2, vk_R.of (hts0 (Cond.stringRef "ReportCauses$Changes" 38 "take ") (lt3 (List.mem_of_getElem? (i := 114) (by decide +kernel)))) (hev 2 (by decide)), (hSS.1 2 (by decide)).1, (hSS.1 2 (by decide)).2.2.1, (hSS.1 2 (by decide)).2.1, (hSS.1 2 (by decide)).2.2.2⟩⟩
/-- the law's model from the start: what is left to be shown of it is that it answers 1 -/
def lawM (L : Nat) (xs : Nat → Int32) : Option Int32 := mL_law 0 500 0 0 1 (fun _ => 0) (fun _ => 0) (fun _ => 0) 1 (fun _ => 0) (fun _ => 0) 0 (fun _ => 0) (fun _ => 0) (fun _ => 0) (fun _ => 0) 0 (fun _ => 0) (fun _ => 0) (fun _ => 0) 0 (fun _ => 0) (fun _ => 0) 0 0 0 16 (fun _ => 0) 0 0 500 0 0 0 0 0 0 (fun _ => 0) (fun _ => 0) (fun _ => 0) (fun _ => 0) (fun _ => 0) (fun _ => 0) (fun _ => 0) (fun _ => 0) (fun _ => 0) (fun _ => 0) (fun _ => 0) (fun _ => 0) (fun _ => 0) (fun _ => 0) 38 2672 L xs
set_option maxHeartbeats 4000000 in
set_option maxRecDepth 100000 in
theorem whole_start_open (hpure : ∀ (L : Nat) (xs : Nat → Int32), L ≤ 3072 → lawM L xs = some 1) {p : Program} {e : Env} {s : State} {m : MethodId} {below : List Frame} {meth : Method} {c : Code} (l : Launch) {b L : Nat} {xs : Nat → Int32} (hL : L ≤ 3072) (C0 : lw_At p s m meth c b L xs) : W p l e room_1 s m #[Value.ref b] below meth c s.heap [] 0 0 (lw_Z below #[Value.ref b] s) (entryFrame m ([Value.ref b] : List Value).toArray 4) := by
  obtain ⟨hx, hb, hr, hml, hown, hts0, hX, hbl, hlocks, hgv⟩ := C0
  have hts := start_ts hts0
  have hN := start_N hts0
  obtain ⟨A, hAd⟩ : ∃ A : Nat → Prop, A = fun q => s.heap.size ≤ q := ⟨_, rfl⟩
  have hA : ∀ q : Nat, s.heap.size ≤ q → A q := fun q h => by rw [hAd]; exact h
  have hAf : ∀ q : Nat, A q → s.heap.size ≤ q := fun q h => by rw [hAd] at h; exact h
  have hE : EN A s s.heap := start_E hts0 hts (flat_of_before _ hgv) (fun a h z => absurd (hAf a z) (by omega))
  obtain ⟨D, cI, cZ, cB, hK⟩ := start_K hts
  refine kstart (A := A) (D := D) (ws := []) va_P0 (fun H hP hS => ?_)
  have hD : va_D A [] := va_D0
  have hl := lv_entry ([.ref b]) (n := 4) (Nat.le_of_ble_eq_true rfl)
  rw [lg_entry_eq]
  generalize (lg_sl ([.ref b]) ++ List.replicate (4 - (lg_sl ([.ref b])).length) Slot.unset).toArray = ls at hl ⊢
  have hl : lv_has ls 4 [(0, .ref b)] := hl
  refine va_new (ci := 0) (fs := [.null, .null, .null, .null, .null, .null, .int 0, .int 0, .int 0, .int 0]) (C := RK0) (T := TK0) (N := 10) hx hb hts inK0b tyK0 tyK0_ok hown (hts _ (up wdt1_18)) (hts _ (up wdt1_19)) (hts _ (up wdt1_1)) hK hP hD hS hA rfl (fun j hj => by rcases (show j = 0 ∨ j = 1 ∨ j = 2 ∨ j = 3 ∨ j = 4 ∨ j = 5 ∨ j = 6 ∨ j = 7 ∨ j = 8 ∨ j = 9 by omega) with rfl | rfl | rfl | rfl | rfl | rfl | rfl | rfl | rfl | rfl <;> rfl) (Nat.le_of_ble_eq_true rfl) (Nat.le_of_ble_eq_true rfl) dL_law_0 (fun q0 H hP hD hS => ?_)
  have hP : va_P D vwCl [(q0, .inr (0, [.null, .null, .null, .null, .null, .null, .int 0, .int 0, .int 0, .int 0]))] H := hP
  have hD : va_D A [(q0, .inr (0, [.null, .null, .null, .null, .null, .null, .int 0, .int 0, .int 0, .int 0]))] := hD
  refine W.widen (k := 1) (n := 10) (by omega) (by omega) ?_
  refine lv_dup hx hb dL_law_3 rfl ?_
  have hPc := hP.sub (ws' := [(q0, .inr (0, [.null, .null, .null, .null, .null, .null, .int 0, .int 0, .int 0, .int 0]))]) [0] rfl
  have hDc := hD.sub (ws' := [(q0, .inr (0, [.null, .null, .null, .null, .null, .null, .int 0, .int 0, .int 0, .int 0]))]) [0] (by decide) rfl
  have hFc := va_free (wc := [(q0, .inr (0, [.null, .null, .null, .null, .null, .null, .int 0, .int 0, .int 0, .int 0]))]) hD hS hA [0] rfl
  refine va_callv (va_runI (As := []) (rest := [.ref q0]) ⟨hx, hb, hml, hown, hts⟩ (kK0_init l D cI cZ cB cI H.size q0) (cwI 0 hts gzK0_init rfl rfl rfl (hts _ (up wdt1_1)) (hts _ (up wdt1_20)) (hts _ (up wdt1_21)) rfl (by decide +kernel) ⟨Nat.le_of_ble_eq_true rfl, Nat.le_of_ble_eq_true rfl⟩) ⟨PrE0_blind, fun U hU hW => ⟨rfl, Pr_at hK hN hPc hDc hU hW, EN_at hE hS hFc hU hW⟩⟩ rfl rfl hl.1 rfl (lv_room (Nat.le_of_ble_eq_true rfl)) dL_law_4 ⟨Nat.le_of_ble_eq_true rfl, Nat.le_of_ble_eq_true rfl⟩) hS (fun q _ h => hFc q h) hFc (fun u t H1 locs ht hvm hw hB hz1 hk1 hS => ?_)
  obtain ⟨a0, a1, a2, a3, a4, a5, a6, a7, a8, a9, a10, a11, a12, a13, a14, a15, a16, a17, a18, a19, a20, a21⟩ := u
  obtain ⟨hP1, hD1⟩ := hB
  rw [ht] at hP1
  obtain ⟨hP, hD⟩ := va_join (wr := []) (w1 := (wMS q0 a0 a1 a2 a3 a4 a5 a6 a7 a8 a9 a10 a11 a12 a13 a14 a15 a16 a17 a18 a19 a20 cI cZ cB cI 0 500 0 0 1 (fun _ => 0) (fun _ => 0) (fun _ => 0) 1 (fun _ => 0) (fun _ => 0) (fun _ => 0) 0 (fun _ => 0) (fun _ => 0) (fun _ => 0) (fun _ => 0) 0 (fun _ => 0) (fun _ => 0) (fun _ => 0) 0 (fun _ => 0) (fun _ => 0) 0 0 0 a21 16 (fun _ => 0))) hP hD [0] [] rfl rfl (by decide) (by decide) hk1 hFc hP1 hD1
  generalize H1 = H at hP hS ⊢
  have hP : va_P D vwCl (wMS q0 a0 a1 a2 a3 a4 a5 a6 a7 a8 a9 a10 a11 a12 a13 a14 a15 a16 a17 a18 a19 a20 cI cZ cB cI 0 500 0 0 1 (fun _ => 0) (fun _ => 0) (fun _ => 0) 1 (fun _ => 0) (fun _ => 0) (fun _ => 0) 0 (fun _ => 0) (fun _ => 0) (fun _ => 0) (fun _ => 0) 0 (fun _ => 0) (fun _ => 0) (fun _ => 0) 0 (fun _ => 0) (fun _ => 0) 0 0 0 a21 16 (fun _ => 0)) H := hP
  have hD : va_D A (wMS q0 a0 a1 a2 a3 a4 a5 a6 a7 a8 a9 a10 a11 a12 a13 a14 a15 a16 a17 a18 a19 a20 cI cZ cB cI 0 500 0 0 1 (fun _ => 0) (fun _ => 0) (fun _ => 0) 1 (fun _ => 0) (fun _ => 0) (fun _ => 0) 0 (fun _ => 0) (fun _ => 0) (fun _ => 0) (fun _ => 0) 0 (fun _ => 0) (fun _ => 0) (fun _ => 0) 0 (fun _ => 0) (fun _ => 0) 0 0 0 a21 16 (fun _ => 0)) := hD
  refine W.widen (k := 23) (n := 378) (by omega) (by omega) ?_
  refine lv_astore_n (lv' := [(1, .ref q0), (0, .ref b)]) hx hb dL_law_7 rfl hl (by decide) rfl (fun ls hl => ?_)
  refine va_new (ci := 5) (fs := [.null, .null, .int 0, .null, .null, .null, .null, .int 0, .null, .null, .null, .int 0, .int 0, .int 0, .int 0, .null, .int 0, .int 0, .null, .null, .null, .null, .int 0]) (C := RK5) (T := TK5) (N := 23) hx hb hts inK5b tyK5 tyK5_ok hown (hts _ (up wdt3_180)) (hts _ (up wdt3_181)) (hts _ (up wdt1_10)) hK hP hD hS hA rfl (fun j hj => by rcases (show j = 0 ∨ j = 1 ∨ j = 2 ∨ j = 3 ∨ j = 4 ∨ j = 5 ∨ j = 6 ∨ j = 7 ∨ j = 8 ∨ j = 9 ∨ j = 10 ∨ j = 11 ∨ j = 12 ∨ j = 13 ∨ j = 14 ∨ j = 15 ∨ j = 16 ∨ j = 17 ∨ j = 18 ∨ j = 19 ∨ j = 20 ∨ j = 21 ∨ j = 22 by omega) with rfl | rfl | rfl | rfl | rfl | rfl | rfl | rfl | rfl | rfl | rfl | rfl | rfl | rfl | rfl | rfl | rfl | rfl | rfl | rfl | rfl | rfl | rfl <;> rfl) (Nat.le_of_ble_eq_true rfl) (Nat.le_of_ble_eq_true rfl) dL_law_8 (fun q1 H hP hD hS => ?_)
  have hP : va_P D vwCl ((wMS q0 a0 a1 a2 a3 a4 a5 a6 a7 a8 a9 a10 a11 a12 a13 a14 a15 a16 a17 a18 a19 a20 cI cZ cB cI 0 500 0 0 1 (fun _ => 0) (fun _ => 0) (fun _ => 0) 1 (fun _ => 0) (fun _ => 0) (fun _ => 0) 0 (fun _ => 0) (fun _ => 0) (fun _ => 0) (fun _ => 0) 0 (fun _ => 0) (fun _ => 0) (fun _ => 0) 0 (fun _ => 0) (fun _ => 0) 0 0 0 a21 16 (fun _ => 0)) ++ [(q1, .inr (5, [.null, .null, .int 0, .null, .null, .null, .null, .int 0, .null, .null, .null, .int 0, .int 0, .int 0, .int 0, .null, .int 0, .int 0, .null, .null, .null, .null, .int 0]))]) H := hP
  have hD : va_D A ((wMS q0 a0 a1 a2 a3 a4 a5 a6 a7 a8 a9 a10 a11 a12 a13 a14 a15 a16 a17 a18 a19 a20 cI cZ cB cI 0 500 0 0 1 (fun _ => 0) (fun _ => 0) (fun _ => 0) 1 (fun _ => 0) (fun _ => 0) (fun _ => 0) 0 (fun _ => 0) (fun _ => 0) (fun _ => 0) (fun _ => 0) 0 (fun _ => 0) (fun _ => 0) (fun _ => 0) 0 (fun _ => 0) (fun _ => 0) 0 0 0 a21 16 (fun _ => 0)) ++ [(q1, .inr (5, [.null, .null, .int 0, .null, .null, .null, .null, .int 0, .null, .null, .null, .int 0, .int 0, .int 0, .int 0, .null, .int 0, .int 0, .null, .null, .null, .null, .int 0]))]) := hD
  refine W.widen (k := 24) (n := 401) (by omega) (by omega) ?_
  refine lv_dup hx hb dL_law_11 rfl ?_
  have hPc := hP.sub (ws' := [(q1, .inr (5, [.null, .null, .int 0, .null, .null, .null, .null, .int 0, .null, .null, .null, .int 0, .int 0, .int 0, .int 0, .null, .int 0, .int 0, .null, .null, .null, .null, .int 0]))]) [23] rfl
  have hDc := hD.sub (ws' := [(q1, .inr (5, [.null, .null, .int 0, .null, .null, .null, .null, .int 0, .null, .null, .null, .int 0, .int 0, .int 0, .int 0, .null, .int 0, .int 0, .null, .null, .null, .null, .int 0]))]) [23] (by decide) rfl
  have hFc := va_free (wc := [(q1, .inr (5, [.null, .null, .int 0, .null, .null, .null, .null, .int 0, .null, .null, .null, .int 0, .int 0, .int 0, .int 0, .null, .int 0, .int 0, .null, .null, .null, .null, .int 0]))]) hD hS hA [23] rfl
  refine va_callv (va_runI (As := []) (rest := [.ref q1]) ⟨hx, hb, hml, hown, hts⟩ (kK5_init l D cI cZ cB cI H.size q1) (cwI 0 hts (gup gkK5_init) rfl rfl rfl (hts _ (up wdt1_10)) (hts _ (up wdt3_182)) (hts _ (up wdt3_183)) rfl (by decide +kernel) ⟨Nat.le_of_ble_eq_true rfl, Nat.le_of_ble_eq_true rfl⟩) ⟨Pr_blind, fun U hU hW => ⟨rfl, Pr_at hK hN hPc hDc hU hW⟩⟩ rfl rfl hl.1 rfl (lv_room (Nat.le_of_ble_eq_true rfl)) dL_law_12 ⟨Nat.le_of_ble_eq_true rfl, Nat.le_of_ble_eq_true rfl⟩) hS (fun q _ h => hFc q h) hFc (fun u t H1 locs ht hvm hw hB hz1 hk1 hS => ?_)
  obtain ⟨b0, b1, b2, b3, b4, b5, b6, b7, b8, b9, b10, b11, b12, b13⟩ := u
  obtain ⟨hP1, hD1⟩ := hB
  rw [ht] at hP1
  obtain ⟨hP, hD⟩ := va_join (wr := (wMS q0 a0 a1 a2 a3 a4 a5 a6 a7 a8 a9 a10 a11 a12 a13 a14 a15 a16 a17 a18 a19 a20 cI cZ cB cI 0 500 0 0 1 (fun _ => 0) (fun _ => 0) (fun _ => 0) 1 (fun _ => 0) (fun _ => 0) (fun _ => 0) 0 (fun _ => 0) (fun _ => 0) (fun _ => 0) (fun _ => 0) 0 (fun _ => 0) (fun _ => 0) (fun _ => 0) 0 (fun _ => 0) (fun _ => 0) 0 0 0 a21 16 (fun _ => 0))) (w1 := (wX q1 b0 b1 b2 b3 b4 b5 b6 b7 b8 b9 b10 b11 b12 b13 cI cZ cB cI 0 0 500 0 0 0 0 0 0 (fun _ => 0) (fun _ => 0) (fun _ => 0) (fun _ => 0) (fun _ => 0) (fun _ => 0) (fun _ => 0) (fun _ => 0) (fun _ => 0) (fun _ => 0) (fun _ => 0) (fun _ => 0) (fun _ => 0) (fun _ => 0))) hP hD [23] [0, 1, 2, 3, 4, 5, 6, 7, 8, 9, 10, 11, 12, 13, 14, 15, 16, 17, 18, 19, 20, 21, 22] rfl rfl (by decide) (by decide) hk1 hFc hP1 hD1
  generalize H1 = H at hP hS ⊢
  have hP : va_P D vwCl (wL q0 a0 a1 a2 a3 a4 a5 a6 a7 a8 a9 a10 a11 a12 a13 a14 a15 a16 a17 a18 a19 a20 q1 b0 b1 b2 b3 b4 b5 b6 b7 b8 b9 b10 b11 b12 b13 cI cZ cB cI 0 500 0 0 1 (fun _ => 0) (fun _ => 0) (fun _ => 0) 1 (fun _ => 0) (fun _ => 0) (fun _ => 0) 0 (fun _ => 0) (fun _ => 0) (fun _ => 0) (fun _ => 0) 0 (fun _ => 0) (fun _ => 0) (fun _ => 0) 0 (fun _ => 0) (fun _ => 0) 0 0 0 a21 16 (fun _ => 0) 0 0 500 0 0 0 0 0 0 (fun _ => 0) (fun _ => 0) (fun _ => 0) (fun _ => 0) (fun _ => 0) (fun _ => 0) (fun _ => 0) (fun _ => 0) (fun _ => 0) (fun _ => 0) (fun _ => 0) (fun _ => 0) (fun _ => 0) (fun _ => 0)) H := hP
  have hD : va_D A (wL q0 a0 a1 a2 a3 a4 a5 a6 a7 a8 a9 a10 a11 a12 a13 a14 a15 a16 a17 a18 a19 a20 q1 b0 b1 b2 b3 b4 b5 b6 b7 b8 b9 b10 b11 b12 b13 cI cZ cB cI 0 500 0 0 1 (fun _ => 0) (fun _ => 0) (fun _ => 0) 1 (fun _ => 0) (fun _ => 0) (fun _ => 0) 0 (fun _ => 0) (fun _ => 0) (fun _ => 0) (fun _ => 0) 0 (fun _ => 0) (fun _ => 0) (fun _ => 0) 0 (fun _ => 0) (fun _ => 0) 0 0 0 a21 16 (fun _ => 0) 0 0 500 0 0 0 0 0 0 (fun _ => 0) (fun _ => 0) (fun _ => 0) (fun _ => 0) (fun _ => 0) (fun _ => 0) (fun _ => 0) (fun _ => 0) (fun _ => 0) (fun _ => 0) (fun _ => 0) (fun _ => 0) (fun _ => 0) (fun _ => 0)) := hD
  refine W.widen (k := 38) (n := 2672) (by omega) (by omega) ?_
  refine lv_astore_n (lv' := [(2, .ref q1), (1, .ref q0), (0, .ref b)]) hx hb dL_law_15 rfl hl (by decide) rfl (fun ls hl => ?_)
  refine lv_iconst (v := 0) hx hb dL_law_16 (by decide) ?_
  refine lv_istore_n (lv' := [(3, .int 0), (2, .ref q1), (1, .ref q0), (0, .ref b)]) hx hb dL_law_17 rfl hl (by decide) rfl (fun ls hl => ?_)
  exact law_main l D cI cZ cB cI hx hb hr hml hown hts hX hbl hlocks hK hN hE hA hAf  q0 a0 a1 a2 a3 a4 a5 a6 a7 a8 a9 a10 a11 a12 a13 a14 a15 a16 a17 a18 a19 a20 q1 b0 b1 b2 b3 b4 b5 b6 b7 b8 b9 b10 b11 b12 b13 0 500 0 0 1 (fun _ => 0) (fun _ => 0) (fun _ => 0) 1 (fun _ => 0) (fun _ => 0) (fun _ => 0) 0 (fun _ => 0) (fun _ => 0) (fun _ => 0) (fun _ => 0) 0 (fun _ => 0) (fun _ => 0) (fun _ => 0) 0 (fun _ => 0) (fun _ => 0) 0 0 0 a21 16 (fun _ => 0) 0 0 500 0 0 0 0 0 0 (fun _ => 0) (fun _ => 0) (fun _ => 0) (fun _ => 0) (fun _ => 0) (fun _ => 0) (fun _ => 0) (fun _ => 0) (fun _ => 0) (fun _ => 0) (fun _ => 0) (fun _ => 0) (fun _ => 0) (fun _ => 0) 38 2672 (hpure L xs hL) H _ ls hP hD hS hl
