def mJ2_bitCount (v0 : Int32) : Option (Int32) :=
  bd1 (some (v0 - ((ush v0 1) &&& 1431655765))) fun x1 => bd1 (some ((x1 &&& 858993459) + ((ush x1 2) &&& 858993459))) fun x2 => bd1 (some ((x2 + (ush x2 4)) &&& 252645135)) fun x3 => bd1 (some (x3 + (ush x3 8))) fun x4 => bd1 (some (x4 + (ush x4 16))) fun x5 => some (x5 &&& 63)
abbrev rmJ2_bitCount : Room := { frames := 0, cells := 0, slots := 0, locals := 0 }
set_option maxHeartbeats 4000000 in
set_option maxRecDepth 100000 in
theorem kJ2_bitCount (l : Launch) (D : va_G) (cI cZ cB cC : ClassId) (sz : Nat) (v0 : Int32) (r0 : Int32) (hm : mJ2_bitCount v0 = some r0) : Met l yJ2_bitCount wsJ2_bitCount rmJ2_bitCount (va_Pc [.int v0] (Pr D (tyL cI cZ cB cC) sz [])) (QI D (va_A [] sz) r0 []) 0 0 (va_A [] sz) := by
  refine Met.ofW (cc := cJ2_bitCount) (maxL := 1) (ret := (some .int)) (by decide) rfl ?_
  intro p e s m args below meth c s₁ B hml hv
  obtain ⟨rfl, hsz, hP, hK, hD0, hN⟩ := hv
  have hx := B.exec
  have hb := B.bytes
  have hr := B.returns
  have hts := htsA (atoms_spec (ws := wsJ2_bitCount) B.pre)
  have hown : s.vm.findClass RJ2 = some m.cls := findClass_of_methodNamed B.named
  have hlocks := B.notSynchronized
  subst hsz
  have hD := hD0.self (sz := s.heap.size)
  generalize hAe : va_A [] s.heap.size = A at hD ⊢
  have hA : ∀ q : Nat, s.heap.size ≤ q → A q := fun q h => by rw [← hAe]; exact Or.inr h
  refine kstart (A := A) hP (fun H hP hS => ?_)
  have hl := lv_entry ([.int v0]) (n := 1) (Nat.le_of_ble_eq_true rfl)
  rw [lg_entry_eq]
  generalize (lg_sl ([.int v0]) ++ List.replicate (1 - (lg_sl ([.int v0])).length) Slot.unset).toArray = ls at hl ⊢
  have hl : lv_has ls 1 [(0, .int v0)] := hl
  unfold mJ2_bitCount at hm
  refine lv_iload_n hx hb dJ2_bitCount_0 rfl (lv_at hl 0 rfl) ?_
  refine lv_iload_n hx hb dJ2_bitCount_1 rfl (lv_at hl 0 rfl) ?_
  refine lv_iconst (v := 1) hx hb dJ2_bitCount_2 (by decide) ?_
  refine lv_iushr (v := ush v0 1) hx hb dJ2_bitCount_3 rfl ?_
  refine lv_ldcw (v := 1431655765) hx hb hown (hts _ wdt2_26) dJ2_bitCount_4 ?_
  refine lv_iand hx hb dJ2_bitCount_7 ?_
  refine lv_isub hx hb dJ2_bitCount_8 ?_
  obtain ⟨x1, ex1, hm⟩ := bd1_s hm
  refine topi (Option.some.inj ex1) ?_
  refine lv_istore_n (lv' := [(0, .int x1)]) hx hb dJ2_bitCount_9 rfl hl (by decide) rfl (fun ls hl => ?_)
  refine lv_iload_n hx hb dJ2_bitCount_10 rfl (lv_at hl 0 rfl) ?_
  refine lv_ldcw (v := 858993459) hx hb hown (hts _ wdt2_27) dJ2_bitCount_11 ?_
  refine lv_iand hx hb dJ2_bitCount_14 ?_
  refine lv_iload_n hx hb dJ2_bitCount_15 rfl (lv_at hl 0 rfl) ?_
  refine lv_iconst (v := 2) hx hb dJ2_bitCount_16 (by decide) ?_
  refine lv_iushr (v := ush x1 2) hx hb dJ2_bitCount_17 rfl ?_
  refine lv_ldcw (v := 858993459) hx hb hown (hts _ wdt2_27) dJ2_bitCount_18 ?_
  refine lv_iand hx hb dJ2_bitCount_21 ?_
  refine lv_iadd hx hb dJ2_bitCount_22 ?_
  obtain ⟨x2, ex2, hm⟩ := bd1_s hm
  refine topi (Option.some.inj ex2) ?_
  refine lv_istore_n (lv' := [(0, .int x2)]) hx hb dJ2_bitCount_23 rfl hl (by decide) rfl (fun ls hl => ?_)
  refine lv_iload_n hx hb dJ2_bitCount_24 rfl (lv_at hl 0 rfl) ?_
  refine lv_iload_n hx hb dJ2_bitCount_25 rfl (lv_at hl 0 rfl) ?_
  refine lv_iconst (v := 4) hx hb dJ2_bitCount_26 (by decide) ?_
  refine lv_iushr (v := ush x2 4) hx hb dJ2_bitCount_27 rfl ?_
  refine lv_iadd hx hb dJ2_bitCount_28 ?_
  refine lv_ldcw (v := 252645135) hx hb hown (hts _ wdt2_28) dJ2_bitCount_29 ?_
  refine lv_iand hx hb dJ2_bitCount_32 ?_
  obtain ⟨x3, ex3, hm⟩ := bd1_s hm
  refine topi (Option.some.inj ex3) ?_
  refine lv_istore_n (lv' := [(0, .int x3)]) hx hb dJ2_bitCount_33 rfl hl (by decide) rfl (fun ls hl => ?_)
  refine lv_iload_n hx hb dJ2_bitCount_34 rfl (lv_at hl 0 rfl) ?_
  refine lv_iload_n hx hb dJ2_bitCount_35 rfl (lv_at hl 0 rfl) ?_
  refine lv_bipush (v := 8) hx hb dJ2_bitCount_36 (by decide) ?_
  refine lv_iushr (v := ush x3 8) hx hb dJ2_bitCount_38 rfl ?_
  refine lv_iadd hx hb dJ2_bitCount_39 ?_
  obtain ⟨x4, ex4, hm⟩ := bd1_s hm
  refine topi (Option.some.inj ex4) ?_
  refine lv_istore_n (lv' := [(0, .int x4)]) hx hb dJ2_bitCount_40 rfl hl (by decide) rfl (fun ls hl => ?_)
  refine lv_iload_n hx hb dJ2_bitCount_41 rfl (lv_at hl 0 rfl) ?_
  refine lv_iload_n hx hb dJ2_bitCount_42 rfl (lv_at hl 0 rfl) ?_
  refine lv_bipush (v := 16) hx hb dJ2_bitCount_43 (by decide) ?_
  refine lv_iushr (v := ush x4 16) hx hb dJ2_bitCount_45 rfl ?_
  refine lv_iadd hx hb dJ2_bitCount_46 ?_
  obtain ⟨x5, ex5, hm⟩ := bd1_s hm
  refine topi (Option.some.inj ex5) ?_
  refine lv_istore_n (lv' := [(0, .int x5)]) hx hb dJ2_bitCount_47 rfl hl (by decide) rfl (fun ls hl => ?_)
  refine lv_iload_n hx hb dJ2_bitCount_48 rfl (lv_at hl 0 rfl) ?_
  refine lv_bipush (v := 63) hx hb dJ2_bitCount_49 (by decide) ?_
  refine lv_iand hx hb dJ2_bitCount_51 ?_
  replace hm := Option.some.inj hm
  subst hm
  exact k_reti hx hb hr hlocks hP hD hS dJ2_bitCount_52
def mK2_holds (rki : Nat → Int32) (rpr : Nat → Int32) (rnu : Nat → Int32) (tob : Nat → Int32) (tme : Nat → Int32) (v2 : Int32) (v3 : Int32) : Option (Int32) :=
  bd1 (rd rpr 10 v2) fun x1 => bd1 (mK1_objectsOf tob v3 x1) fun x2 => bd1 (rd rnu 10 v2) fun x4 => bd1 (rd rki 10 v2) fun x5 => if x5 = 0 then
  (bd1 (mJ2_bitCount x2) fun x6 => if x6 < x4 then
    (some 0)
    else
    (some 1))
  else
  (if x5 = 1 then
  (bd1 (mJ2_bitCount x2) fun x8 => if x4 < x8 then
    (some 0)
    else
    (some 1))
  else
  (if x5 = 2 then
  (bd1 (mK1_membersOf tme x4) fun x10 => if (x2 &&& (x10 ^^^ ((-1)))) = 0 then
    (some 1)
    else
    (some 0))
  else
  (if x5 = 3 then
  (bd1 (mK0_hasMember x2 x4) fun x12 => if x12 = 0 then
    (some 1)
    else
    (some 0))
  else
  (if x5 = 4 then
  (bd1 (mK1_objectsOf tob v3 x4) fun x14 => if x2 = x14 then
    (some 1)
    else
    (some 0))
  else
  (bd1 (mK1_objectsOf tob v3 x4) fun x16 => if (x2 &&& x16) = 0 then
  (some 1)
  else
  (some 0))))))
abbrev rmK2_holds : Room := { frames := 1, cells := 0, slots := 0, locals := 22 }
set_option maxHeartbeats 4000000 in
set_option maxRecDepth 100000 in
theorem kK2_holds (l : Launch) (D : va_G) (cI cZ cB cC : ClassId) (sz : Nat) (ra : Nat) (ra1 : Nat) (ra2 : Nat) (ra3 : Nat) (ra4 : Nat) (ta : Nat) (ta1 : Nat) (ta2 : Nat) (ta3 : Nat) (rn : Int32) (rki : Nat → Int32) (rta : Nat → Int32) (rpr : Nat → Int32) (rnu : Nat → Int32) (tso : Int32) (tob : Nat → Int32) (tme : Nat → Int32) (twi : Nat → Int32) (v2 : Int32) (v3 : Int32) (r0 : Int32) (hm : mK2_holds rki rpr rnu tob tme v2 v3 = some r0) : Met l yK2_holds wsK2_holds rmK2_holds (va_Pc [.ref ra, .ref ta, .int v2, .int v3] (Pr D (tyL cI cZ cB cC) sz (wRT ra ra1 ra2 ra3 ra4 ta ta1 ta2 ta3 cI cZ cB cC rn rki rta rpr rnu tso tob tme twi))) (QI D (va_A (wRT ra ra1 ra2 ra3 ra4 ta ta1 ta2 ta3 cI cZ cB cC rn rki rta rpr rnu tso tob tme twi) sz) r0 (wRT ra ra1 ra2 ra3 ra4 ta ta1 ta2 ta3 cI cZ cB cC rn rki rta rpr rnu tso tob tme twi)) 0 0 (va_A (wRT ra ra1 ra2 ra3 ra4 ta ta1 ta2 ta3 cI cZ cB cC rn rki rta rpr rnu tso tob tme twi) sz) := by
  refine Met.ofW (cc := cK2_holds) (maxL := 6) (ret := (some .boolean)) (by decide) rfl ?_
  intro p e s m args below meth c s₁ B hml hv
  obtain ⟨rfl, hsz, hP, hK, hD0, hN⟩ := hv
  have hx := B.exec
  have hb := B.bytes
  have hr := B.returns
  have hts := htsA (atoms_spec (ws := wsK2_holds) B.pre)
  have hown : s.vm.findClass RK2 = some m.cls := findClass_of_methodNamed B.named
  have hlocks := B.notSynchronized
  subst hsz
  have hD := hD0.self (sz := s.heap.size)
  generalize hAe : va_A (wRT ra ra1 ra2 ra3 ra4 ta ta1 ta2 ta3 cI cZ cB cC rn rki rta rpr rnu tso tob tme twi) s.heap.size = A at hD ⊢
  have hA : ∀ q : Nat, s.heap.size ≤ q → A q := fun q h => by rw [← hAe]; exact Or.inr h
  refine kstart (A := A) hP (fun H hP hS => ?_)
  have hl := lv_entry ([.ref ra, .ref ta, .int v2, .int v3]) (n := 6) (Nat.le_of_ble_eq_true rfl)
  rw [lg_entry_eq]
  generalize (lg_sl ([.ref ra, .ref ta, .int v2, .int v3]) ++ List.replicate (6 - (lg_sl ([.ref ra, .ref ta, .int v2, .int v3])).length) Slot.unset).toArray = ls at hl ⊢
  have hl : lv_has ls 6 [(0, .ref ra), (1, .ref ta), (2, .int v2), (3, .int v3)] := hl
  unfold mK2_holds at hm
  refine lv_aload_n hx hb dK2_holds_0 rfl (lv_at hl 1 rfl) ?_
  refine lv_iload_n hx hb dK2_holds_1 rfl (lv_at hl 3 rfl) ?_
  refine lv_aload_n hx hb dK2_holds_2 rfl (lv_at hl 0 rfl) ?_
  refine va_get (D := D) (ci := 2) (v := .ref ra3) (C := RK2) (T := TK2) (N := 5) hx hb hts inK2 hown hK hP 0 rfl rfl 2 (by decide) (hts _ wdt1_56) (fun _ h9 => h9) rfl dK2_holds_3 ?_
  refine lv_iload_n hx hb dK2_holds_6 rfl (lv_at hl 2 rfl) ?_
  obtain ⟨x1, ex1, hm⟩ := bd1_s hm
  obtain ⟨hix1, ex1⟩ := rd_s ex1
  refine va_iald hx hb hK hP 3 0 rfl rfl hix1 dK2_holds_7 ?_
  refine topi ex1 ?_
  obtain ⟨x2, ec3, hm⟩ := bd1_s hm
  have hPc := hP.sub (ws' := (wT ta ta1 ta2 ta3 cI cZ cB cC tso tob tme twi)) [5, 6, 7, 8] rfl
  have hDc := hD.sub (ws' := (wT ta ta1 ta2 ta3 cI cZ cB cC tso tob tme twi)) [5, 6, 7, 8] (by decide) rfl
  refine k_calli (wr := [(ra, .inr (2, [.ref ra1, .ref ra2, .ref ra3, .ref ra4, .int rn])), (ra1, .inl (cI, 10, .inl rki)), (ra2, .inl (cI, 10, .inl rta)), (ra3, .inl (cI, 10, .inl rpr)), (ra4, .inl (cI, 10, .inl rnu))]) (w1 := (wT ta ta1 ta2 ta3 cI cZ cB cC tso tob tme twi)) (ws' := (wRT ra ra1 ra2 ra3 ra4 ta ta1 ta2 ta3 cI cZ cB cC rn rki rta rpr rnu tso tob tme twi)) (va_runV (As := [.int v3, .int x1]) (rest := []) ⟨hx, hb, hml, hown, hts⟩ (kK1_objectsOf l D cI cZ cB cC H.size ta ta1 ta2 ta3 tso tob tme twi v3 x1 x2 ec3) (cwV 2 hts (gdV wdt2_22 wdt1_196 wdt1_197 wdt1_2 gkK1_objectsOf) rfl rfl rfl (by decide +kernel) ⟨Nat.le_of_ble_eq_true rfl, Nat.le_of_ble_eq_true rfl⟩) ⟨Pr_blind, va_recv hK hPc (ci := 1) (q0 := 0) rfl rfl, fun U hU hW => ⟨rfl, Pr_at hK hN hPc hDc hU hW⟩⟩ rfl rfl hl.1 rfl (lv_room (Nat.le_of_ble_eq_true rfl)) dK2_holds_8 ⟨Nat.le_of_ble_eq_true rfl, Nat.le_of_ble_eq_true rfl⟩) hP hD hS hA [5, 6, 7, 8] [0, 1, 2, 3, 4] [0, 1, 2, 3, 4, 5, 6, 7, 8] rfl rfl (by decide) (by decide) (by decide) rfl (fun H locs hP hD hS => ?_)
  refine lv_istore (lv' := [(4, .int x2), (0, .ref ra), (1, .ref ta), (2, .int v2), (3, .int v3)]) hx hb dK2_holds_11 hl (by decide) rfl (fun ls hl => ?_)
  refine lv_aload_n hx hb dK2_holds_13 rfl (lv_at hl 1 rfl) ?_
  refine va_get (D := D) (ci := 2) (v := .ref ra4) (C := RK2) (T := TK2) (N := 5) hx hb hts inK2 hown hK hP 0 rfl rfl 3 (by decide) (hts _ wdt1_58) (fun _ h9 => h9) rfl dK2_holds_14 ?_
  refine lv_iload_n hx hb dK2_holds_17 rfl (lv_at hl 3 rfl) ?_
  obtain ⟨x4, ex4, hm⟩ := bd1_s hm
  obtain ⟨hix4, ex4⟩ := rd_s ex4
  refine va_iald hx hb hK hP 4 0 rfl rfl hix4 dK2_holds_18 ?_
  refine topi ex4 ?_
  refine lv_istore (lv' := [(5, .int x4), (4, .int x2), (0, .ref ra), (1, .ref ta), (2, .int v2), (3, .int v3)]) hx hb dK2_holds_19 hl (by decide) rfl (fun ls hl => ?_)
  refine lv_aload_n hx hb dK2_holds_21 rfl (lv_at hl 2 rfl) ?_
  refine va_get (D := D) (ci := 2) (v := .ref ra1) (C := RK2) (T := TK2) (N := 5) hx hb hts inK2 hown hK hP 0 rfl rfl 0 (by decide) (hts _ wdt1_52) (fun _ h9 => h9) rfl dK2_holds_22 ?_
  refine lv_iload_n hx hb dK2_holds_25 rfl (lv_at hl 4 rfl) ?_
  obtain ⟨x5, ex5, hm⟩ := bd1_s hm
  obtain ⟨hix5, ex5⟩ := rd_s ex5
  refine va_iald hx hb hK hP 1 0 rfl rfl hix5 dK2_holds_26 ?_
  refine topi ex5 ?_
  by_cases hc27_0 : x5 = 0
  · replace hm := ift hm hc27_0
    refine topi hc27_0 ?_
    refine lv_tableIn (tgt := 60) hx hb dK2_holds_27 (by decide) (by decide) rfl (by decide) ?_
    refine lv_iload hx hb dK2_holds_60 (lv_at hl 1 rfl) ?_
    obtain ⟨x6, ec7, hm⟩ := bd1_s hm
    have hPc : va_P D vwCl [] H := va_P0
    have hDc : va_D A [] := va_D0
    refine k_calli0 (va_runS (As := [.int x2]) (rest := []) ⟨hx, hb, hml, hown, hts⟩ (kJ2_bitCount l D cI cZ cB cC H.size x2 x6 ec7) (va_cwS 1 hts (gdS wdt2_23 wdt2_24 wdt1_12 gkJ2_bitCount) rfl rfl rfl (by decide +kernel) ⟨Nat.le_of_ble_eq_true rfl, Nat.le_of_ble_eq_true rfl⟩) ⟨Pr_blind, fun U hU hW => ⟨rfl, Pr_at hK hN hPc hDc hU hW⟩⟩ rfl rfl hl.1 rfl (lv_room (Nat.le_of_ble_eq_true rfl)) dK2_holds_62 ⟨Nat.le_of_ble_eq_true rfl, Nat.le_of_ble_eq_true rfl⟩) hP hD hS hA (fun H locs hP hD hS => ?_)
    refine lv_iload hx hb dK2_holds_65 (lv_at hl 0 rfl) ?_
    refine lv_icmp_lt (tgt := 74) hx hb dK2_holds_67 (by decide) (fun hc => ?_) (fun hc => ?_)
    · replace hm := ift hm hc
      refine lv_iconst (v := 0) hx hb dK2_holds_74 (by decide) ?_
      replace hm := Option.some.inj hm
      subst hm
      exact k_retz hx hb hr hlocks rfl hP hD hS dK2_holds_75
    · replace hm := iff_ hm hc
      refine lv_iconst (v := 1) hx hb dK2_holds_70 (by decide) ?_
      refine lv_goto (tgt := 75) hx hb dK2_holds_71 (by decide) ?_
      replace hm := Option.some.inj hm
      subst hm
      exact k_retz hx hb hr hlocks rfl hP hD hS dK2_holds_75
  · replace hm := iff_ hm hc27_0
    by_cases hc27_1 : x5 = 1
    · replace hm := ift hm hc27_1
      refine topi hc27_1 ?_
      refine lv_tableIn (tgt := 76) hx hb dK2_holds_27 (by decide) (by decide) rfl (by decide) ?_
      refine lv_iload hx hb dK2_holds_76 (lv_at hl 1 rfl) ?_
      obtain ⟨x8, ec9, hm⟩ := bd1_s hm
      have hPc : va_P D vwCl [] H := va_P0
      have hDc : va_D A [] := va_D0
      refine k_calli0 (va_runS (As := [.int x2]) (rest := []) ⟨hx, hb, hml, hown, hts⟩ (kJ2_bitCount l D cI cZ cB cC H.size x2 x8 ec9) (va_cwS 1 hts (gdS wdt2_23 wdt2_24 wdt1_12 gkJ2_bitCount) rfl rfl rfl (by decide +kernel) ⟨Nat.le_of_ble_eq_true rfl, Nat.le_of_ble_eq_true rfl⟩) ⟨Pr_blind, fun U hU hW => ⟨rfl, Pr_at hK hN hPc hDc hU hW⟩⟩ rfl rfl hl.1 rfl (lv_room (Nat.le_of_ble_eq_true rfl)) dK2_holds_78 ⟨Nat.le_of_ble_eq_true rfl, Nat.le_of_ble_eq_true rfl⟩) hP hD hS hA (fun H locs hP hD hS => ?_)
      refine lv_iload hx hb dK2_holds_81 (lv_at hl 0 rfl) ?_
      refine lv_icmp_gt (tgt := 90) hx hb dK2_holds_83 (by decide) (fun hc => ?_) (fun hc => ?_)
      · replace hm := ift hm hc
        refine lv_iconst (v := 0) hx hb dK2_holds_90 (by decide) ?_
        replace hm := Option.some.inj hm
        subst hm
        exact k_retz hx hb hr hlocks rfl hP hD hS dK2_holds_91
      · replace hm := iff_ hm hc
        refine lv_iconst (v := 1) hx hb dK2_holds_86 (by decide) ?_
        refine lv_goto (tgt := 91) hx hb dK2_holds_87 (by decide) ?_
        replace hm := Option.some.inj hm
        subst hm
        exact k_retz hx hb hr hlocks rfl hP hD hS dK2_holds_91
    · replace hm := iff_ hm hc27_1
      by_cases hc27_2 : x5 = 2
      · replace hm := ift hm hc27_2
        refine topi hc27_2 ?_
        refine lv_tableIn (tgt := 92) hx hb dK2_holds_27 (by decide) (by decide) rfl (by decide) ?_
        refine lv_iload hx hb dK2_holds_92 (lv_at hl 1 rfl) ?_
        refine lv_aload_n hx hb dK2_holds_94 rfl (lv_at hl 3 rfl) ?_
        refine lv_iload hx hb dK2_holds_95 (lv_at hl 0 rfl) ?_
        obtain ⟨x10, ec11, hm⟩ := bd1_s hm
        have hPc := hP.sub (ws' := (wT ta ta1 ta2 ta3 cI cZ cB cC tso tob tme twi)) [5, 6, 7, 8] rfl
        have hDc := hD.sub (ws' := (wT ta ta1 ta2 ta3 cI cZ cB cC tso tob tme twi)) [5, 6, 7, 8] (by decide) rfl
        refine k_calli (wr := [(ra, .inr (2, [.ref ra1, .ref ra2, .ref ra3, .ref ra4, .int rn])), (ra1, .inl (cI, 10, .inl rki)), (ra2, .inl (cI, 10, .inl rta)), (ra3, .inl (cI, 10, .inl rpr)), (ra4, .inl (cI, 10, .inl rnu))]) (w1 := (wT ta ta1 ta2 ta3 cI cZ cB cC tso tob tme twi)) (ws' := (wRT ra ra1 ra2 ra3 ra4 ta ta1 ta2 ta3 cI cZ cB cC rn rki rta rpr rnu tso tob tme twi)) (va_runV (As := [.int x4]) (rest := [.int x2]) ⟨hx, hb, hml, hown, hts⟩ (kK1_membersOf l D cI cZ cB cC H.size ta ta1 ta2 ta3 tso tob tme twi x4 x10 ec11) (cwV 1 hts (gdV wdt2_13 wdt2_14 wdt2_15 wdt1_2 gkK1_membersOf) rfl rfl rfl (by decide +kernel) ⟨Nat.le_of_ble_eq_true rfl, Nat.le_of_ble_eq_true rfl⟩) ⟨Pr_blind, va_recv hK hPc (ci := 1) (q0 := 0) rfl rfl, fun U hU hW => ⟨rfl, Pr_at hK hN hPc hDc hU hW⟩⟩ rfl rfl hl.1 rfl (lv_room (Nat.le_of_ble_eq_true rfl)) dK2_holds_97 ⟨Nat.le_of_ble_eq_true rfl, Nat.le_of_ble_eq_true rfl⟩) hP hD hS hA [5, 6, 7, 8] [0, 1, 2, 3, 4] [0, 1, 2, 3, 4, 5, 6, 7, 8] rfl rfl (by decide) (by decide) (by decide) rfl (fun H locs hP hD hS => ?_)
        refine lv_iconst (v := (-1)) hx hb dK2_holds_100 (by decide) ?_
        refine lv_ixor hx hb dK2_holds_101 ?_
        refine lv_iand hx hb dK2_holds_102 ?_
        refine lv_if_ne (tgt := 110) hx hb dK2_holds_103 (by decide) (fun hc => ?_) (fun hc => ?_)
        · replace hm := iff_ hm hc
          refine lv_iconst (v := 0) hx hb dK2_holds_110 (by decide) ?_
          replace hm := Option.some.inj hm
          subst hm
          exact k_retz hx hb hr hlocks rfl hP hD hS dK2_holds_111
        · replace hm := ift hm hc
          refine lv_iconst (v := 1) hx hb dK2_holds_106 (by decide) ?_
          refine lv_goto (tgt := 111) hx hb dK2_holds_107 (by decide) ?_
          replace hm := Option.some.inj hm
          subst hm
          exact k_retz hx hb hr hlocks rfl hP hD hS dK2_holds_111
      · replace hm := iff_ hm hc27_2
        by_cases hc27_3 : x5 = 3
        · replace hm := ift hm hc27_3
          refine topi hc27_3 ?_
          refine lv_tableIn (tgt := 112) hx hb dK2_holds_27 (by decide) (by decide) rfl (by decide) ?_
          refine lv_iload hx hb dK2_holds_112 (lv_at hl 1 rfl) ?_
          refine lv_iload hx hb dK2_holds_114 (lv_at hl 0 rfl) ?_
          obtain ⟨x12, ec13, hm⟩ := bd1_s hm
          have hPc : va_P D vwCl [] H := va_P0
          have hDc : va_D A [] := va_D0
          refine k_calli0 (va_runSN (As := [.int x2, .int x4]) (rest := []) ⟨hx, hb, hml, hown, hts⟩ (kK0_hasMember l D cI cZ cB cC H.size x2 x4 x12 ec13) ⟨va_cnB 2 hts gkK0_hasMember rfl rfl rfl (nwM hN 8 rfl) (hts _ wdt1_1) (by decide +kernel) ⟨Nat.le_of_ble_eq_true rfl, Nat.le_of_ble_eq_true rfl⟩, (hts _ wdt1_200), trivial⟩ ⟨Pr_blind, fun U hU hW => ⟨rfl, Pr_at hK hN hPc hDc hU hW⟩⟩ rfl rfl hl.1 rfl (lv_room (Nat.le_of_ble_eq_true rfl)) dK2_holds_116 ⟨Nat.le_of_ble_eq_true rfl, Nat.le_of_ble_eq_true rfl⟩) hP hD hS hA (fun H locs hP hD hS => ?_)
          refine lv_if_ne (tgt := 126) hx hb dK2_holds_119 (by decide) (fun hc => ?_) (fun hc => ?_)
          · replace hm := iff_ hm hc
            refine lv_iconst (v := 0) hx hb dK2_holds_126 (by decide) ?_
            replace hm := Option.some.inj hm
            subst hm
            exact k_retz hx hb hr hlocks rfl hP hD hS dK2_holds_127
          · replace hm := ift hm hc
            refine lv_iconst (v := 1) hx hb dK2_holds_122 (by decide) ?_
            refine lv_goto (tgt := 127) hx hb dK2_holds_123 (by decide) ?_
            replace hm := Option.some.inj hm
            subst hm
            exact k_retz hx hb hr hlocks rfl hP hD hS dK2_holds_127
        · replace hm := iff_ hm hc27_3
          by_cases hc27_4 : x5 = 4
          · replace hm := ift hm hc27_4
            refine topi hc27_4 ?_
            refine lv_tableIn (tgt := 128) hx hb dK2_holds_27 (by decide) (by decide) rfl (by decide) ?_
            refine lv_iload hx hb dK2_holds_128 (lv_at hl 1 rfl) ?_
            refine lv_aload_n hx hb dK2_holds_130 rfl (lv_at hl 3 rfl) ?_
            refine lv_iload_n hx hb dK2_holds_131 rfl (lv_at hl 5 rfl) ?_
            refine lv_iload hx hb dK2_holds_132 (lv_at hl 0 rfl) ?_
            obtain ⟨x14, ec15, hm⟩ := bd1_s hm
            have hPc := hP.sub (ws' := (wT ta ta1 ta2 ta3 cI cZ cB cC tso tob tme twi)) [5, 6, 7, 8] rfl
            have hDc := hD.sub (ws' := (wT ta ta1 ta2 ta3 cI cZ cB cC tso tob tme twi)) [5, 6, 7, 8] (by decide) rfl
            refine k_calli (wr := [(ra, .inr (2, [.ref ra1, .ref ra2, .ref ra3, .ref ra4, .int rn])), (ra1, .inl (cI, 10, .inl rki)), (ra2, .inl (cI, 10, .inl rta)), (ra3, .inl (cI, 10, .inl rpr)), (ra4, .inl (cI, 10, .inl rnu))]) (w1 := (wT ta ta1 ta2 ta3 cI cZ cB cC tso tob tme twi)) (ws' := (wRT ra ra1 ra2 ra3 ra4 ta ta1 ta2 ta3 cI cZ cB cC rn rki rta rpr rnu tso tob tme twi)) (va_runV (As := [.int v3, .int x4]) (rest := [.int x2]) ⟨hx, hb, hml, hown, hts⟩ (kK1_objectsOf l D cI cZ cB cC H.size ta ta1 ta2 ta3 tso tob tme twi v3 x4 x14 ec15) (cwV 2 hts (gdV wdt2_22 wdt1_196 wdt1_197 wdt1_2 gkK1_objectsOf) rfl rfl rfl (by decide +kernel) ⟨Nat.le_of_ble_eq_true rfl, Nat.le_of_ble_eq_true rfl⟩) ⟨Pr_blind, va_recv hK hPc (ci := 1) (q0 := 0) rfl rfl, fun U hU hW => ⟨rfl, Pr_at hK hN hPc hDc hU hW⟩⟩ rfl rfl hl.1 rfl (lv_room (Nat.le_of_ble_eq_true rfl)) dK2_holds_134 ⟨Nat.le_of_ble_eq_true rfl, Nat.le_of_ble_eq_true rfl⟩) hP hD hS hA [5, 6, 7, 8] [0, 1, 2, 3, 4] [0, 1, 2, 3, 4, 5, 6, 7, 8] rfl rfl (by decide) (by decide) (by decide) rfl (fun H locs hP hD hS => ?_)
            refine lv_icmp_ne (tgt := 144) hx hb dK2_holds_137 (by decide) (fun hc => ?_) (fun hc => ?_)
            · replace hm := iff_ hm hc
              refine lv_iconst (v := 0) hx hb dK2_holds_144 (by decide) ?_
              replace hm := Option.some.inj hm
              subst hm
              exact k_retz hx hb hr hlocks rfl hP hD hS dK2_holds_145
            · replace hm := ift hm hc
              refine lv_iconst (v := 1) hx hb dK2_holds_140 (by decide) ?_
              refine lv_goto (tgt := 145) hx hb dK2_holds_141 (by decide) ?_
              replace hm := Option.some.inj hm
              subst hm
              exact k_retz hx hb hr hlocks rfl hP hD hS dK2_holds_145
          · replace hm := iff_ hm hc27_4
            refine lv_tableOut (tgt := 146) hx hb dK2_holds_27 (tabout5_0 hc27_0 hc27_1 hc27_2 hc27_3 hc27_4) (by decide) ?_
            refine lv_iload hx hb dK2_holds_146 (lv_at hl 1 rfl) ?_
            refine lv_aload_n hx hb dK2_holds_148 rfl (lv_at hl 3 rfl) ?_
            refine lv_iload_n hx hb dK2_holds_149 rfl (lv_at hl 5 rfl) ?_
            refine lv_iload hx hb dK2_holds_150 (lv_at hl 0 rfl) ?_
            obtain ⟨x16, ec17, hm⟩ := bd1_s hm
            have hPc := hP.sub (ws' := (wT ta ta1 ta2 ta3 cI cZ cB cC tso tob tme twi)) [5, 6, 7, 8] rfl
            have hDc := hD.sub (ws' := (wT ta ta1 ta2 ta3 cI cZ cB cC tso tob tme twi)) [5, 6, 7, 8] (by decide) rfl
            refine k_calli (wr := [(ra, .inr (2, [.ref ra1, .ref ra2, .ref ra3, .ref ra4, .int rn])), (ra1, .inl (cI, 10, .inl rki)), (ra2, .inl (cI, 10, .inl rta)), (ra3, .inl (cI, 10, .inl rpr)), (ra4, .inl (cI, 10, .inl rnu))]) (w1 := (wT ta ta1 ta2 ta3 cI cZ cB cC tso tob tme twi)) (ws' := (wRT ra ra1 ra2 ra3 ra4 ta ta1 ta2 ta3 cI cZ cB cC rn rki rta rpr rnu tso tob tme twi)) (va_runV (As := [.int v3, .int x4]) (rest := [.int x2]) ⟨hx, hb, hml, hown, hts⟩ (kK1_objectsOf l D cI cZ cB cC H.size ta ta1 ta2 ta3 tso tob tme twi v3 x4 x16 ec17) (cwV 2 hts (gdV wdt2_22 wdt1_196 wdt1_197 wdt1_2 gkK1_objectsOf) rfl rfl rfl (by decide +kernel) ⟨Nat.le_of_ble_eq_true rfl, Nat.le_of_ble_eq_true rfl⟩) ⟨Pr_blind, va_recv hK hPc (ci := 1) (q0 := 0) rfl rfl, fun U hU hW => ⟨rfl, Pr_at hK hN hPc hDc hU hW⟩⟩ rfl rfl hl.1 rfl (lv_room (Nat.le_of_ble_eq_true rfl)) dK2_holds_152 ⟨Nat.le_of_ble_eq_true rfl, Nat.le_of_ble_eq_true rfl⟩) hP hD hS hA [5, 6, 7, 8] [0, 1, 2, 3, 4] [0, 1, 2, 3, 4, 5, 6, 7, 8] rfl rfl (by decide) (by decide) (by decide) rfl (fun H locs hP hD hS => ?_)
            refine lv_iand hx hb dK2_holds_155 ?_
            refine lv_if_ne (tgt := 163) hx hb dK2_holds_156 (by decide) (fun hc => ?_) (fun hc => ?_)
            · replace hm := iff_ hm hc
              refine lv_iconst (v := 0) hx hb dK2_holds_163 (by decide) ?_
              replace hm := Option.some.inj hm
              subst hm
              exact k_retz hx hb hr hlocks rfl hP hD hS dK2_holds_164
            · replace hm := ift hm hc
              refine lv_iconst (v := 1) hx hb dK2_holds_159 (by decide) ?_
              refine lv_goto (tgt := 164) hx hb dK2_holds_160 (by decide) ?_
              replace hm := Option.some.inj hm
              subst hm
              exact k_retz hx hb hr hlocks rfl hP hD hS dK2_holds_164
def mK2_failing_A17 (i4x17 : Int32) : Option (Int32) :=
  some i4x17
def mK2_failing_B17 (rki : Nat → Int32) (rpr : Nat → Int32) (rnu : Nat → Int32) (tob : Nat → Int32) (tme : Nat → Int32) (v2 : Int32) (x2 : Int32) (kx17 : Int32 → Option (Int32)) (rc17 : Int32 → Int32 → Option (Int32)) (i4l17 : Int32) (i5l17 : Int32) : Option (Int32) :=
  if 12 ≤ i5l17 then
  (kx17 i4l17)
  else
  (if x2 = 0 then
    (kx17 i4l17)
    else
    (bd1 (mK0_hasMember x2 i5l17) fun x4 => if x4 = 0 then
      (bd1 (some (i5l17 + 1)) fun x6 => rc17 i4l17 x6)
      else
      (bd1 (mK2_holds rki rpr rnu tob tme v2 i5l17) fun x7 => if x7 = 0 then
        (bd1 (some (i4l17 ||| (1 <<< (i5l17 &&& 31)))) fun x10 => bd1 (some (i5l17 + 1)) fun x11 => rc17 x10 x11)
        else
        (bd1 (some (i5l17 + 1)) fun x9 => rc17 i4l17 x9))))
def mK2_failing_L17 (rki : Nat → Int32) (rpr : Nat → Int32) (rnu : Nat → Int32) (tob : Nat → Int32) (tme : Nat → Int32) (v2 : Int32) (x2 : Int32) (kx17 : Int32 → Option (Int32)) : Nat → Int32 → Int32 → Option (Int32)
  | 0, _, _ => none
  | n + 1, i4l17, i5l17 => mK2_failing_B17 rki rpr rnu tob tme v2 x2 kx17 (mK2_failing_L17 rki rpr rnu tob tme v2 x2 kx17 n) i4l17 i5l17
def mK2_failing (rki : Nat → Int32) (rta : Nat → Int32) (rpr : Nat → Int32) (rnu : Nat → Int32) (tob : Nat → Int32) (tme : Nat → Int32) (v2 : Int32) : Option (Int32) :=
  bd1 (rd rta 10 v2) fun x1 => bd1 (mK1_membersOf tme x1) fun x2 => mK2_failing_L17 rki rpr rnu tob tme v2 x2 (mK2_failing_A17) 5000 0 0
abbrev rmK2_failing : Room := { frames := 2, cells := 0, slots := 0, locals := 47 }
set_option maxHeartbeats 4000000 in
set_option maxRecDepth 100000 in
theorem kK2_failing (l : Launch) (D : va_G) (cI cZ cB cC : ClassId) (sz : Nat) (ra : Nat) (ra1 : Nat) (ra2 : Nat) (ra3 : Nat) (ra4 : Nat) (ta : Nat) (ta1 : Nat) (ta2 : Nat) (ta3 : Nat) (rn : Int32) (rki : Nat → Int32) (rta : Nat → Int32) (rpr : Nat → Int32) (rnu : Nat → Int32) (tso : Int32) (tob : Nat → Int32) (tme : Nat → Int32) (twi : Nat → Int32) (v2 : Int32) (r0 : Int32) (hm : mK2_failing rki rta rpr rnu tob tme v2 = some r0) : Met l yK2_failing wsK2_failing rmK2_failing (va_Pc [.ref ra, .ref ta, .int v2] (Pr D (tyL cI cZ cB cC) sz (wRT ra ra1 ra2 ra3 ra4 ta ta1 ta2 ta3 cI cZ cB cC rn rki rta rpr rnu tso tob tme twi))) (QI D (va_A (wRT ra ra1 ra2 ra3 ra4 ta ta1 ta2 ta3 cI cZ cB cC rn rki rta rpr rnu tso tob tme twi) sz) r0 (wRT ra ra1 ra2 ra3 ra4 ta ta1 ta2 ta3 cI cZ cB cC rn rki rta rpr rnu tso tob tme twi)) 0 0 (va_A (wRT ra ra1 ra2 ra3 ra4 ta ta1 ta2 ta3 cI cZ cB cC rn rki rta rpr rnu tso tob tme twi) sz) := by
  refine Met.ofW (cc := cK2_failing) (maxL := 6) (ret := (some .int)) (by decide) rfl ?_
  intro p e s m args below meth c s₁ B hml hv
  obtain ⟨rfl, hsz, hP, hK, hD0, hN⟩ := hv
  have hx := B.exec
  have hb := B.bytes
  have hr := B.returns
  have hts := htsA (atoms_spec (ws := wsK2_failing) B.pre)
  have hown : s.vm.findClass RK2 = some m.cls := findClass_of_methodNamed B.named
  have hlocks := B.notSynchronized
  subst hsz
  have hD := hD0.self (sz := s.heap.size)
  generalize hAe : va_A (wRT ra ra1 ra2 ra3 ra4 ta ta1 ta2 ta3 cI cZ cB cC rn rki rta rpr rnu tso tob tme twi) s.heap.size = A at hD ⊢
  have hA : ∀ q : Nat, s.heap.size ≤ q → A q := fun q h => by rw [← hAe]; exact Or.inr h
  refine kstart (A := A) hP (fun H hP hS => ?_)
  have hl := lv_entry ([.ref ra, .ref ta, .int v2]) (n := 6) (Nat.le_of_ble_eq_true rfl)
  rw [lg_entry_eq]
  generalize (lg_sl ([.ref ra, .ref ta, .int v2]) ++ List.replicate (6 - (lg_sl ([.ref ra, .ref ta, .int v2])).length) Slot.unset).toArray = ls at hl ⊢
  have hl : lv_has ls 6 [(0, .ref ra), (1, .ref ta), (2, .int v2)] := hl
  unfold mK2_failing at hm
  refine lv_aload_n hx hb dK2_failing_0 rfl (lv_at hl 1 rfl) ?_
  refine lv_aload_n hx hb dK2_failing_1 rfl (lv_at hl 0 rfl) ?_
  refine va_get (D := D) (ci := 2) (v := .ref ra2) (C := RK2) (T := TK2) (N := 5) hx hb hts inK2 hown hK hP 0 rfl rfl 1 (by decide) (hts _ wdt1_54) (fun _ h9 => h9) rfl dK2_failing_2 ?_
  refine lv_iload_n hx hb dK2_failing_5 rfl (lv_at hl 2 rfl) ?_
  obtain ⟨x1, ex1, hm⟩ := bd1_s hm
  obtain ⟨hix1, ex1⟩ := rd_s ex1
  refine va_iald hx hb hK hP 2 0 rfl rfl hix1 dK2_failing_6 ?_
  refine topi ex1 ?_
  obtain ⟨x2, ec3, hm⟩ := bd1_s hm
  have hPc := hP.sub (ws' := (wT ta ta1 ta2 ta3 cI cZ cB cC tso tob tme twi)) [5, 6, 7, 8] rfl
  have hDc := hD.sub (ws' := (wT ta ta1 ta2 ta3 cI cZ cB cC tso tob tme twi)) [5, 6, 7, 8] (by decide) rfl
  refine k_calli (wr := [(ra, .inr (2, [.ref ra1, .ref ra2, .ref ra3, .ref ra4, .int rn])), (ra1, .inl (cI, 10, .inl rki)), (ra2, .inl (cI, 10, .inl rta)), (ra3, .inl (cI, 10, .inl rpr)), (ra4, .inl (cI, 10, .inl rnu))]) (w1 := (wT ta ta1 ta2 ta3 cI cZ cB cC tso tob tme twi)) (ws' := (wRT ra ra1 ra2 ra3 ra4 ta ta1 ta2 ta3 cI cZ cB cC rn rki rta rpr rnu tso tob tme twi)) (va_runV (As := [.int x1]) (rest := []) ⟨hx, hb, hml, hown, hts⟩ (kK1_membersOf l D cI cZ cB cC H.size ta ta1 ta2 ta3 tso tob tme twi x1 x2 ec3) (cwV 1 hts (gdV wdt2_13 wdt2_14 wdt2_15 wdt1_2 gkK1_membersOf) rfl rfl rfl (by decide +kernel) ⟨Nat.le_of_ble_eq_true rfl, Nat.le_of_ble_eq_true rfl⟩) ⟨Pr_blind, va_recv hK hPc (ci := 1) (q0 := 0) rfl rfl, fun U hU hW => ⟨rfl, Pr_at hK hN hPc hDc hU hW⟩⟩ rfl rfl hl.1 rfl (lv_room (Nat.le_of_ble_eq_true rfl)) dK2_failing_7 ⟨Nat.le_of_ble_eq_true rfl, Nat.le_of_ble_eq_true rfl⟩) hP hD hS hA [5, 6, 7, 8] [0, 1, 2, 3, 4] [0, 1, 2, 3, 4, 5, 6, 7, 8] rfl rfl (by decide) (by decide) (by decide) rfl (fun H locs hP hD hS => ?_)
  refine lv_istore_n (lv' := [(3, .int x2), (0, .ref ra), (1, .ref ta), (2, .int v2)]) hx hb dK2_failing_10 rfl hl (by decide) rfl (fun ls hl => ?_)
  refine lv_iconst (v := 0) hx hb dK2_failing_11 (by decide) ?_
  refine lv_istore (lv' := [(4, .int 0), (3, .int x2), (0, .ref ra), (1, .ref ta), (2, .int v2)]) hx hb dK2_failing_12 hl (by decide) rfl (fun ls hl => ?_)
  refine lv_iconst (v := 0) hx hb dK2_failing_14 (by decide) ?_
  refine lv_istore (lv' := [(5, .int 0), (4, .int 0), (3, .int x2), (0, .ref ra), (1, .ref ta), (2, .int v2)]) hx hb dK2_failing_15 hl (by decide) rfl (fun ls hl => ?_)
  have lx17 : ∀ (i4x17 : Int32) (H : Heap) (locs : List Loc) (ls : Array Slot), mK2_failing_A17 i4x17 = some r0 → va_P D vwCl (wRT ra ra1 ra2 ra3 ra4 ta ta1 ta2 ta3 cI cZ cB cC rn rki rta rpr rnu tso tob tme twi) H → va_D A (wRT ra ra1 ra2 ra3 ra4 ta ta1 ta2 ta3 cI cZ cB cC rn rki rta rpr rnu tso tob tme twi) → va_S A s.heap H locs → lv_has ls 6 [(4, .int i4x17)] → W p l e (headSpec wsK2_failing rmK2_failing).room s m ([.ref ra, .ref ta, .int v2] : List Value).toArray below meth c H locs 0 0 (MQ below (QI D A r0 (wRT ra ra1 ra2 ra3 ra4 ta ta1 ta2 ta3 cI cZ cB cC rn rki rta rpr rnu tso tob tme twi)) ([.ref ra, .ref ta, .int v2] : List Value).toArray s 0 0 A) (F0 m 63 ls []) := by
    intro i4x17 H locs ls hm hP hD hS hl
    unfold mK2_failing_A17 at hm
    refine lv_iload hx hb dK2_failing_63 (lv_at hl 0 rfl) ?_
    replace hm := Option.some.inj hm
    subst hm
    exact k_reti hx hb hr hlocks hP hD hS dK2_failing_65
  have lp17 : ∀ (n17 : Nat) (i4l17 : Int32) (i5l17 : Int32) (H : Heap) (locs : List Loc) (ls : Array Slot), mK2_failing_L17 rki rpr rnu tob tme v2 x2 (mK2_failing_A17) n17 i4l17 i5l17 = some r0 → va_P D vwCl (wRT ra ra1 ra2 ra3 ra4 ta ta1 ta2 ta3 cI cZ cB cC rn rki rta rpr rnu tso tob tme twi) H → va_D A (wRT ra ra1 ra2 ra3 ra4 ta ta1 ta2 ta3 cI cZ cB cC rn rki rta rpr rnu tso tob tme twi) → va_S A s.heap H locs → lv_has ls 6 [(5, .int i5l17), (4, .int i4l17), (3, .int x2), (0, .ref ra), (1, .ref ta), (2, .int v2)] → W p l e (headSpec wsK2_failing rmK2_failing).room s m ([.ref ra, .ref ta, .int v2] : List Value).toArray below meth c H locs 0 0 (MQ below (QI D A r0 (wRT ra ra1 ra2 ra3 ra4 ta ta1 ta2 ta3 cI cZ cB cC rn rki rta rpr rnu tso tob tme twi)) ([.ref ra, .ref ta, .int v2] : List Value).toArray s 0 0 A) (F0 m 17 ls []) := by
    intro n17
    induction n17 with
    | zero => intro i4l17 i5l17 H locs ls hm; exact nomatch (show none = _ from hm)
    | succ n17 ih17 =>
      intro i4l17 i5l17 H locs ls hm hP hD hS hl
      replace hm : mK2_failing_B17 rki rpr rnu tob tme v2 x2 (mK2_failing_A17) (mK2_failing_L17 rki rpr rnu tob tme v2 x2 (mK2_failing_A17) n17) i4l17 i5l17 = some r0 := hm
      unfold mK2_failing_B17 at hm
      refine lv_iload hx hb dK2_failing_17 (lv_at hl 0 rfl) ?_
      refine lv_bipush (v := 12) hx hb dK2_failing_19 (by decide) ?_
      refine lv_icmp_ge (tgt := 63) hx hb dK2_failing_21 (by decide) (fun hc => ?_) (fun hc => ?_)
      · replace hm := ift hm hc
        exact lx17 i4l17 _ _ _ hm hP hD hS (lv_sub hl [1] rfl)
      · replace hm := iff_ hm hc
        refine lv_iload_n hx hb dK2_failing_24 rfl (lv_at hl 2 rfl) ?_
        refine lv_if_eq (tgt := 63) hx hb dK2_failing_25 (by decide) (fun hc => ?_) (fun hc => ?_)
        · replace hm := ift hm hc
          exact lx17 i4l17 _ _ _ hm hP hD hS (lv_sub hl [1] rfl)
        · replace hm := iff_ hm hc
          refine lv_iload_n hx hb dK2_failing_28 rfl (lv_at hl 2 rfl) ?_
          refine lv_iload hx hb dK2_failing_29 (lv_at hl 0 rfl) ?_
          obtain ⟨x4, ec5, hm⟩ := bd1_s hm
          have hPc : va_P D vwCl [] H := va_P0
          have hDc : va_D A [] := va_D0
          refine k_calli0 (va_runSN (As := [.int x2, .int i5l17]) (rest := []) ⟨hx, hb, hml, hown, hts⟩ (kK0_hasMember l D cI cZ cB cC H.size x2 i5l17 x4 ec5) ⟨va_cnB 2 hts gkK0_hasMember rfl rfl rfl (nwM hN 8 rfl) (hts _ wdt1_1) (by decide +kernel) ⟨Nat.le_of_ble_eq_true rfl, Nat.le_of_ble_eq_true rfl⟩, (hts _ wdt1_200), trivial⟩ ⟨Pr_blind, fun U hU hW => ⟨rfl, Pr_at hK hN hPc hDc hU hW⟩⟩ rfl rfl hl.1 rfl (lv_room (Nat.le_of_ble_eq_true rfl)) dK2_failing_31 ⟨Nat.le_of_ble_eq_true rfl, Nat.le_of_ble_eq_true rfl⟩) hP hD hS hA (fun H locs hP hD hS => ?_)
          refine lv_if_eq (tgt := 57) hx hb dK2_failing_34 (by decide) (fun hc => ?_) (fun hc => ?_)
          · replace hm := ift hm hc
            obtain ⟨x6, ex6, hm⟩ := bd1_s hm
            refine lv_iinc (v := x6) (lv' := [(5, .int x6), (4, .int i4l17), (3, .int x2), (0, .ref ra), (1, .ref ta), (2, .int v2)]) hx hb dK2_failing_57 hl (k := 0) rfl (by rw [← Option.some.inj ex6]; rfl) (by decide) rfl (fun ls hl => ?_)
            refine lv_goto (tgt := 17) hx hb dK2_failing_60 (by decide) ?_
            exact ih17 i4l17 x6 _ _ _ hm hP hD hS (lv_sub hl [0, 1, 2, 3, 4, 5] rfl)
          · replace hm := iff_ hm hc
            refine lv_aload_n hx hb dK2_failing_37 rfl (lv_at hl 3 rfl) ?_
            refine lv_aload_n hx hb dK2_failing_38 rfl (lv_at hl 4 rfl) ?_
            refine lv_iload_n hx hb dK2_failing_39 rfl (lv_at hl 5 rfl) ?_
            refine lv_iload hx hb dK2_failing_40 (lv_at hl 0 rfl) ?_
            obtain ⟨x7, ec8, hm⟩ := bd1_s hm
            have hPc := hP.sub (ws' := (wRT ra ra1 ra2 ra3 ra4 ta ta1 ta2 ta3 cI cZ cB cC rn rki rta rpr rnu tso tob tme twi)) [0, 1, 2, 3, 4, 5, 6, 7, 8] rfl
            have hDc := hD.sub (ws' := (wRT ra ra1 ra2 ra3 ra4 ta ta1 ta2 ta3 cI cZ cB cC rn rki rta rpr rnu tso tob tme twi)) [0, 1, 2, 3, 4, 5, 6, 7, 8] (by decide) rfl
            refine k_calli (wr := []) (w1 := (wRT ra ra1 ra2 ra3 ra4 ta ta1 ta2 ta3 cI cZ cB cC rn rki rta rpr rnu tso tob tme twi)) (ws' := (wRT ra ra1 ra2 ra3 ra4 ta ta1 ta2 ta3 cI cZ cB cC rn rki rta rpr rnu tso tob tme twi)) (va_runV (As := [.ref ta, .int v2, .int i5l17]) (rest := []) ⟨hx, hb, hml, hown, hts⟩ (kK2_holds l D cI cZ cB cC H.size ra ra1 ra2 ra3 ra4 ta ta1 ta2 ta3 rn rki rta rpr rnu tso tob tme twi v2 i5l17 x7 ec8) (cwV 3 hts (gdV wdt2_18 wdt2_20 wds1_2 wdt1_3 gkK2_holds) rfl rfl rfl (by decide +kernel) ⟨Nat.le_of_ble_eq_true rfl, Nat.le_of_ble_eq_true rfl⟩) ⟨Pr_blind, va_recv hK hPc (ci := 2) (q0 := 0) rfl rfl, fun U hU hW => ⟨rfl, Pr_at hK hN hPc hDc hU hW⟩⟩ rfl rfl hl.1 rfl (lv_room (Nat.le_of_ble_eq_true rfl)) dK2_failing_42 ⟨Nat.le_of_ble_eq_true rfl, Nat.le_of_ble_eq_true rfl⟩) hP hD hS hA [0, 1, 2, 3, 4, 5, 6, 7, 8] [] [0, 1, 2, 3, 4, 5, 6, 7, 8] rfl rfl (by decide) (by decide) (by decide) rfl (fun H locs hP hD hS => ?_)
            refine lv_if_ne (tgt := 57) hx hb dK2_failing_45 (by decide) (fun hc => ?_) (fun hc => ?_)
            · replace hm := iff_ hm hc
              obtain ⟨x9, ex9, hm⟩ := bd1_s hm
              refine lv_iinc (v := x9) (lv' := [(5, .int x9), (4, .int i4l17), (3, .int x2), (0, .ref ra), (1, .ref ta), (2, .int v2)]) hx hb dK2_failing_57 hl (k := 0) rfl (by rw [← Option.some.inj ex9]; rfl) (by decide) rfl (fun ls hl => ?_)
              refine lv_goto (tgt := 17) hx hb dK2_failing_60 (by decide) ?_
              exact ih17 i4l17 x9 _ _ _ hm hP hD hS (lv_sub hl [0, 1, 2, 3, 4, 5] rfl)
            · replace hm := ift hm hc
              refine lv_iload hx hb dK2_failing_48 (lv_at hl 1 rfl) ?_
              refine lv_iconst (v := 1) hx hb dK2_failing_50 (by decide) ?_
              refine lv_iload hx hb dK2_failing_51 (lv_at hl 0 rfl) ?_
              refine lv_ishl hx hb dK2_failing_53 ?_
              refine lv_ior hx hb dK2_failing_54 ?_
              obtain ⟨x10, ex10, hm⟩ := bd1_s hm
              refine topi (Option.some.inj ex10) ?_
              refine lv_istore (lv' := [(4, .int x10), (5, .int i5l17), (3, .int x2), (0, .ref ra), (1, .ref ta), (2, .int v2)]) hx hb dK2_failing_55 hl (by decide) rfl (fun ls hl => ?_)
              obtain ⟨x11, ex11, hm⟩ := bd1_s hm
              refine lv_iinc (v := x11) (lv' := [(5, .int x11), (4, .int x10), (3, .int x2), (0, .ref ra), (1, .ref ta), (2, .int v2)]) hx hb dK2_failing_57 hl (k := 1) rfl (by rw [← Option.some.inj ex11]; rfl) (by decide) rfl (fun ls hl => ?_)
              refine lv_goto (tgt := 17) hx hb dK2_failing_60 (by decide) ?_
              exact ih17 x10 x11 _ _ _ hm hP hD hS (lv_sub hl [0, 1, 2, 3, 4, 5] rfl)
  exact lp17 5000 0 0 _ _ _ hm hP hD hS (lv_sub hl [0, 1, 2, 3, 4, 5] rfl)
def mK0_results_A4 (i1x4 : Int32) : Option (Int32) :=
  some i1x4
def mK0_results_B4 (trob : Nat → Int32) (trme : Nat → Int32) (run : Int32) (ruki : Nat → Int32) (ruta : Nat → Int32) (rupr : Nat → Int32) (runu : Nat → Int32) (kx4 : Int32 → Option (Int32)) (rc4 : Int32 → Int32 → Option (Int32)) (i1l4 : Int32) (i2l4 : Int32) : Option (Int32) :=
  if run ≤ i2l4 then
  (kx4 i1l4)
  else
  (bd1 (mK2_failing ruki ruta rupr runu trob trme i2l4) fun x1 => bd1 (mJ2_bitCount x1) fun x3 => bd1 (some (i1l4 + x3)) fun x5 => bd1 (some (i2l4 + 1)) fun x6 => rc4 x5 x6)
def mK0_results_L4 (trob : Nat → Int32) (trme : Nat → Int32) (run : Int32) (ruki : Nat → Int32) (ruta : Nat → Int32) (rupr : Nat → Int32) (runu : Nat → Int32) (kx4 : Int32 → Option (Int32)) : Nat → Int32 → Int32 → Option (Int32)
  | 0, _, _ => none
  | n + 1, i1l4, i2l4 => mK0_results_B4 trob trme run ruki ruta rupr runu kx4 (mK0_results_L4 trob trme run ruki ruta rupr runu kx4 n) i1l4 i2l4
def mK0_results (trob : Nat → Int32) (trme : Nat → Int32) (run : Int32) (ruki : Nat → Int32) (ruta : Nat → Int32) (rupr : Nat → Int32) (runu : Nat → Int32) : Option (Int32) :=
  mK0_results_L4 trob trme run ruki ruta rupr runu (mK0_results_A4) 5000 0 0
abbrev rmK0_results : Room := { frames := 3, cells := 0, slots := 0, locals := 72 }
set_option maxHeartbeats 4000000 in
set_option maxRecDepth 100000 in
theorem kK0_results (l : Launch) (D : va_G) (cI cZ cB cC : ClassId) (sz : Nat) (oa : Nat) (tra : Nat) (tra1 : Nat) (tra2 : Nat) (tra3 : Nat) (tia : Nat) (tia1 : Nat) (tia2 : Nat) (tia3 : Nat) (rua : Nat) (rua1 : Nat) (rua2 : Nat) (rua3 : Nat) (rua4 : Nat) (cha : Nat) (cha1 : Nat) (cha2 : Nat) (cha3 : Nat) (foa : Nat) (foa1 : Nat) (foa2 : Nat) (sba : Nat) (ocs : Int32) (oal : Int32) (olt : Int32) (ols : Int32) (trso : Int32) (trob : Nat → Int32) (trme : Nat → Int32) (trwi : Nat → Int32) (tiso : Int32) (tiob : Nat → Int32) (time : Nat → Int32) (tiwi : Nat → Int32) (run : Int32) (ruki : Nat → Int32) (ruta : Nat → Int32) (rupr : Nat → Int32) (runu : Nat → Int32) (chn : Int32) (chpu : Nat → Int32) (chco : Nat → Int32) (chwe : Nat → Int32) (fon : Int32) (fose : Nat → Int32) (fosu : Nat → Int32) (r0 : Int32) (hm : mK0_results trob trme run ruki ruta rupr runu = some r0) : Met l yK0_results wsK0_results rmK0_results (va_Pc [.ref oa] (Pr D (tyL cI cZ cB cC) sz (wM oa tra tra1 tra2 tra3 tia tia1 tia2 tia3 rua rua1 rua2 rua3 rua4 cha cha1 cha2 cha3 foa foa1 foa2 sba cI cZ cB cC ocs oal olt ols trso trob trme trwi tiso tiob time tiwi run ruki ruta rupr runu chn chpu chco chwe fon fose fosu))) (QI D (va_A (wM oa tra tra1 tra2 tra3 tia tia1 tia2 tia3 rua rua1 rua2 rua3 rua4 cha cha1 cha2 cha3 foa foa1 foa2 sba cI cZ cB cC ocs oal olt ols trso trob trme trwi tiso tiob time tiwi run ruki ruta rupr runu chn chpu chco chwe fon fose fosu) sz) r0 (wM oa tra tra1 tra2 tra3 tia tia1 tia2 tia3 rua rua1 rua2 rua3 rua4 cha cha1 cha2 cha3 foa foa1 foa2 sba cI cZ cB cC ocs oal olt ols trso trob trme trwi tiso tiob time tiwi run ruki ruta rupr runu chn chpu chco chwe fon fose fosu)) 0 0 (va_A (wM oa tra tra1 tra2 tra3 tia tia1 tia2 tia3 rua rua1 rua2 rua3 rua4 cha cha1 cha2 cha3 foa foa1 foa2 sba cI cZ cB cC ocs oal olt ols trso trob trme trwi tiso tiob time tiwi run ruki ruta rupr runu chn chpu chco chwe fon fose fosu) sz) := by
  refine Met.ofW (cc := cK0_results) (maxL := 3) (ret := (some .int)) (by decide) rfl ?_
  intro p e s m args below meth c s₁ B hml hv
  obtain ⟨rfl, hsz, hP, hK, hD0, hN⟩ := hv
  have hx := B.exec
  have hb := B.bytes
  have hr := B.returns
  have hts := htsA (atoms_spec (ws := wsK0_results) B.pre)
  have hown : s.vm.findClass RK0 = some m.cls := findClass_of_methodNamed B.named
  have hlocks := B.notSynchronized
  subst hsz
  have hD := hD0.self (sz := s.heap.size)
  generalize hAe : va_A (wM oa tra tra1 tra2 tra3 tia tia1 tia2 tia3 rua rua1 rua2 rua3 rua4 cha cha1 cha2 cha3 foa foa1 foa2 sba cI cZ cB cC ocs oal olt ols trso trob trme trwi tiso tiob time tiwi run ruki ruta rupr runu chn chpu chco chwe fon fose fosu) s.heap.size = A at hD ⊢
  have hA : ∀ q : Nat, s.heap.size ≤ q → A q := fun q h => by rw [← hAe]; exact Or.inr h
  refine kstart (A := A) hP (fun H hP hS => ?_)
  have hl := lv_entry ([.ref oa]) (n := 3) (Nat.le_of_ble_eq_true rfl)
  rw [lg_entry_eq]
  generalize (lg_sl ([.ref oa]) ++ List.replicate (3 - (lg_sl ([.ref oa])).length) Slot.unset).toArray = ls at hl ⊢
  have hl : lv_has ls 3 [(0, .ref oa)] := hl
  unfold mK0_results at hm
  refine lv_iconst (v := 0) hx hb dK0_results_0 (by decide) ?_
  refine lv_istore_n (lv' := [(1, .int 0), (0, .ref oa)]) hx hb dK0_results_1 rfl hl (by decide) rfl (fun ls hl => ?_)
  refine lv_iconst (v := 0) hx hb dK0_results_2 (by decide) ?_
  refine lv_istore_n (lv' := [(2, .int 0), (1, .int 0), (0, .ref oa)]) hx hb dK0_results_3 rfl hl (by decide) rfl (fun ls hl => ?_)
  have lx4 : ∀ (i1x4 : Int32) (H : Heap) (locs : List Loc) (ls : Array Slot), mK0_results_A4 i1x4 = some r0 → va_P D vwCl (wM oa tra tra1 tra2 tra3 tia tia1 tia2 tia3 rua rua1 rua2 rua3 rua4 cha cha1 cha2 cha3 foa foa1 foa2 sba cI cZ cB cC ocs oal olt ols trso trob trme trwi tiso tiob time tiwi run ruki ruta rupr runu chn chpu chco chwe fon fose fosu) H → va_D A (wM oa tra tra1 tra2 tra3 tia tia1 tia2 tia3 rua rua1 rua2 rua3 rua4 cha cha1 cha2 cha3 foa foa1 foa2 sba cI cZ cB cC ocs oal olt ols trso trob trme trwi tiso tiob time tiwi run ruki ruta rupr runu chn chpu chco chwe fon fose fosu) → va_S A s.heap H locs → lv_has ls 3 [(1, .int i1x4)] → W p l e (headSpec wsK0_results rmK0_results).room s m ([.ref oa] : List Value).toArray below meth c H locs 0 0 (MQ below (QI D A r0 (wM oa tra tra1 tra2 tra3 tia tia1 tia2 tia3 rua rua1 rua2 rua3 rua4 cha cha1 cha2 cha3 foa foa1 foa2 sba cI cZ cB cC ocs oal olt ols trso trob trme trwi tiso tiob time tiwi run ruki ruta rupr runu chn chpu chco chwe fon fose fosu)) ([.ref oa] : List Value).toArray s 0 0 A) (F0 m 39 ls []) := by
    intro i1x4 H locs ls hm hP hD hS hl
    unfold mK0_results_A4 at hm
    refine lv_iload_n hx hb dK0_results_39 rfl (lv_at hl 0 rfl) ?_
    replace hm := Option.some.inj hm
    subst hm
    exact k_reti hx hb hr hlocks hP hD hS dK0_results_40
  have lp4 : ∀ (n4 : Nat) (i1l4 : Int32) (i2l4 : Int32) (H : Heap) (locs : List Loc) (ls : Array Slot), mK0_results_L4 trob trme run ruki ruta rupr runu (mK0_results_A4) n4 i1l4 i2l4 = some r0 → va_P D vwCl (wM oa tra tra1 tra2 tra3 tia tia1 tia2 tia3 rua rua1 rua2 rua3 rua4 cha cha1 cha2 cha3 foa foa1 foa2 sba cI cZ cB cC ocs oal olt ols trso trob trme trwi tiso tiob time tiwi run ruki ruta rupr runu chn chpu chco chwe fon fose fosu) H → va_D A (wM oa tra tra1 tra2 tra3 tia tia1 tia2 tia3 rua rua1 rua2 rua3 rua4 cha cha1 cha2 cha3 foa foa1 foa2 sba cI cZ cB cC ocs oal olt ols trso trob trme trwi tiso tiob time tiwi run ruki ruta rupr runu chn chpu chco chwe fon fose fosu) → va_S A s.heap H locs → lv_has ls 3 [(2, .int i2l4), (1, .int i1l4), (0, .ref oa)] → W p l e (headSpec wsK0_results rmK0_results).room s m ([.ref oa] : List Value).toArray below meth c H locs 0 0 (MQ below (QI D A r0 (wM oa tra tra1 tra2 tra3 tia tia1 tia2 tia3 rua rua1 rua2 rua3 rua4 cha cha1 cha2 cha3 foa foa1 foa2 sba cI cZ cB cC ocs oal olt ols trso trob trme trwi tiso tiob time tiwi run ruki ruta rupr runu chn chpu chco chwe fon fose fosu)) ([.ref oa] : List Value).toArray s 0 0 A) (F0 m 4 ls []) := by
    intro n4
    induction n4 with
    | zero => intro i1l4 i2l4 H locs ls hm; exact nomatch (show none = _ from hm)
    | succ n4 ih4 =>
      intro i1l4 i2l4 H locs ls hm hP hD hS hl
      replace hm : mK0_results_B4 trob trme run ruki ruta rupr runu (mK0_results_A4) (mK0_results_L4 trob trme run ruki ruta rupr runu (mK0_results_A4) n4) i1l4 i2l4 = some r0 := hm
      unfold mK0_results_B4 at hm
      refine lv_iload_n hx hb dK0_results_4 rfl (lv_at hl 0 rfl) ?_
      refine lv_aload_n hx hb dK0_results_5 rfl (lv_at hl 2 rfl) ?_
      refine va_get (D := D) (ci := 0) (v := .ref rua) (C := RK0) (T := TK0) (N := 10) hx hb hts inK0 hown hK hP 0 rfl rfl 2 (by decide) (hts _ wdt1_145) (fun _ h9 => h9) rfl dK0_results_6 ?_
      refine va_getN (D := D) (ci := 2) (v := .int run) (C := RK2) (T := TK2) (N := 5) hx hb hts inK2 hown hK hP 9 rfl rfl 4 (by decide) (nw hN 4 rfl) (fun _ h9 => h9) rfl dK0_results_9 ?_
      refine lv_icmp_ge (tgt := 39) hx hb dK0_results_12 (by decide) (fun hc => ?_) (fun hc => ?_)
      · replace hm := ift hm hc
        exact lx4 i1l4 _ _ _ hm hP hD hS (lv_sub hl [1] rfl)
      · replace hm := iff_ hm hc
        refine lv_iload_n hx hb dK0_results_15 rfl (lv_at hl 1 rfl) ?_
        refine lv_aload_n hx hb dK0_results_16 rfl (lv_at hl 2 rfl) ?_
        refine va_get (D := D) (ci := 0) (v := .ref rua) (C := RK0) (T := TK0) (N := 10) hx hb hts inK0 hown hK hP 0 rfl rfl 2 (by decide) (hts _ wdt1_145) (fun _ h9 => h9) rfl dK0_results_17 ?_
        refine lv_aload_n hx hb dK0_results_20 rfl (lv_at hl 2 rfl) ?_
        refine va_get (D := D) (ci := 0) (v := .ref tra) (C := RK0) (T := TK0) (N := 10) hx hb hts inK0 hown hK hP 0 rfl rfl 0 (by decide) (hts _ wdt1_143) (fun _ h9 => h9) rfl dK0_results_21 ?_
        refine lv_iload_n hx hb dK0_results_24 rfl (lv_at hl 0 rfl) ?_
        obtain ⟨x1, ec2, hm⟩ := bd1_s hm
        have hPc := hP.sub (ws' := (wRT rua rua1 rua2 rua3 rua4 tra tra1 tra2 tra3 cI cZ cB cC run ruki ruta rupr runu trso trob trme trwi)) [9, 10, 11, 12, 13, 1, 2, 3, 4] rfl
        have hDc := hD.sub (ws' := (wRT rua rua1 rua2 rua3 rua4 tra tra1 tra2 tra3 cI cZ cB cC run ruki ruta rupr runu trso trob trme trwi)) [9, 10, 11, 12, 13, 1, 2, 3, 4] (by decide) rfl
        refine k_calli (wr := [(oa, .inr (0, [.ref tra, .ref tia, .ref rua, .ref cha, .ref foa, .ref sba, .int ocs, .int oal, .int olt, .int ols])), (tia, .inr (1, [.ref tia1, .ref tia2, .ref tia3, .int tiso])), (tia1, .inl (cI, 72, .inl tiob)), (tia2, .inl (cI, 12, .inl time)), (tia3, .inl (cI, 12, .inl tiwi)), (cha, .inr (3, [.ref cha1, .ref cha2, .ref cha3, .int chn])), (cha1, .inl (cZ, 12, .inl chpu)), (cha2, .inl (cI, 12, .inl chco)), (cha3, .inl (cI, 12, .inl chwe)), (foa, .inr (4, [.ref foa1, .ref foa2, .int fon])), (foa1, .inl (cI, 30, .inl fose)), (foa2, .inl (cI, 30, .inl fosu))]) (w1 := (wRT rua rua1 rua2 rua3 rua4 tra tra1 tra2 tra3 cI cZ cB cC run ruki ruta rupr runu trso trob trme trwi)) (ws' := (wM oa tra tra1 tra2 tra3 tia tia1 tia2 tia3 rua rua1 rua2 rua3 rua4 cha cha1 cha2 cha3 foa foa1 foa2 sba cI cZ cB cC ocs oal olt ols trso trob trme trwi tiso tiob time tiwi run ruki ruta rupr runu chn chpu chco chwe fon fose fosu)) (va_runV (As := [.ref tra, .int i2l4]) (rest := [.int i1l4]) ⟨hx, hb, hml, hown, hts⟩ (kK2_failing l D cI cZ cB cC H.size rua rua1 rua2 rua3 rua4 tra tra1 tra2 tra3 run ruki ruta rupr runu trso trob trme trwi i2l4 x1 ec2) (cwV 2 hts (gdV wdt2_9 wdt2_10 wdt2_11 wdt1_3 gkK2_failing) rfl rfl rfl (by decide +kernel) ⟨Nat.le_of_ble_eq_true rfl, Nat.le_of_ble_eq_true rfl⟩) ⟨Pr_blind, va_recv hK hPc (ci := 2) (q0 := 0) rfl rfl, fun U hU hW => ⟨rfl, Pr_at hK hN hPc hDc hU hW⟩⟩ rfl rfl hl.1 rfl (lv_room (Nat.le_of_ble_eq_true rfl)) dK0_results_25 ⟨Nat.le_of_ble_eq_true rfl, Nat.le_of_ble_eq_true rfl⟩) hP hD hS hA [9, 10, 11, 12, 13, 1, 2, 3, 4] [0, 5, 6, 7, 8, 14, 15, 16, 17, 18, 19, 20] [0, 17, 18, 19, 20, 1, 2, 3, 4, 12, 13, 14, 15, 16, 5, 6, 7, 8, 9, 10, 11] rfl rfl (by decide) (by decide) (by decide) rfl (fun H locs hP hD hS => ?_)
        obtain ⟨x3, ec4, hm⟩ := bd1_s hm
        have hPc : va_P D vwCl [] H := va_P0
        have hDc : va_D A [] := va_D0
        refine k_calli0 (va_runS (As := [.int x1]) (rest := [.int i1l4]) ⟨hx, hb, hml, hown, hts⟩ (kJ2_bitCount l D cI cZ cB cC H.size x1 x3 ec4) (va_cwS 1 hts (gdS wdt2_29 wdt2_24 wdt1_12 gkJ2_bitCount) rfl rfl rfl (by decide +kernel) ⟨Nat.le_of_ble_eq_true rfl, Nat.le_of_ble_eq_true rfl⟩) ⟨Pr_blind, fun U hU hW => ⟨rfl, Pr_at hK hN hPc hDc hU hW⟩⟩ rfl rfl hl.1 rfl (lv_room (Nat.le_of_ble_eq_true rfl)) dK0_results_28 ⟨Nat.le_of_ble_eq_true rfl, Nat.le_of_ble_eq_true rfl⟩) hP hD hS hA (fun H locs hP hD hS => ?_)
        refine lv_iadd hx hb dK0_results_31 ?_
        obtain ⟨x5, ex5, hm⟩ := bd1_s hm
        refine topi (Option.some.inj ex5) ?_
        refine lv_istore_n (lv' := [(1, .int x5), (2, .int i2l4), (0, .ref oa)]) hx hb dK0_results_32 rfl hl (by decide) rfl (fun ls hl => ?_)
        obtain ⟨x6, ex6, hm⟩ := bd1_s hm
        refine lv_iinc (v := x6) (lv' := [(2, .int x6), (1, .int x5), (0, .ref oa)]) hx hb dK0_results_33 hl (k := 1) rfl (by rw [← Option.some.inj ex6]; rfl) (by decide) rfl (fun ls hl => ?_)
        refine lv_goto (tgt := 4) hx hb dK0_results_36 (by decide) ?_
        exact ih4 x5 x6 _ _ _ hm hP hD hS (lv_sub hl [0, 1, 2] rfl)
  exact lp4 5000 0 0 _ _ _ hm hP hD hS (lv_sub hl [0, 1, 2] rfl)
def mK0_nthMember_A4 : Option (Int32) :=
  some ((-2))
def mK0_nthMember_B4 (v0 : Int32) (kx4 : Option (Int32)) (rc4 : Int32 → Int32 → Option (Int32)) (i2l4 : Int32) (i3l4 : Int32) : Option (Int32) :=
  if 12 ≤ i3l4 then
  (kx4)
  else
  (bd1 (mK0_hasMember v0 i3l4) fun x1 => if x1 = 0 then
    (bd1 (some (i3l4 + 1)) fun x3 => rc4 i2l4 x3)
    else
    (if i2l4 = 0 then
      (some i3l4)
      else
      (bd1 (some (i2l4 + (-1))) fun x4 => bd1 (some (i3l4 + 1)) fun x5 => rc4 x4 x5)))
def mK0_nthMember_L4 (v0 : Int32) (kx4 : Option (Int32)) : Nat → Int32 → Int32 → Option (Int32)
  | 0, _, _ => none
  | n + 1, i2l4, i3l4 => mK0_nthMember_B4 v0 kx4 (mK0_nthMember_L4 v0 kx4 n) i2l4 i3l4
def mK0_nthMember (v0 : Int32) (v1 : Int32) : Option (Int32) :=
  mK0_nthMember_L4 v0 (mK0_nthMember_A4) 5000 v1 0
abbrev rmK0_nthMember : Room := { frames := 1, cells := 0, slots := 0, locals := 21 }
set_option maxHeartbeats 4000000 in
set_option maxRecDepth 100000 in
theorem kK0_nthMember (l : Launch) (D : va_G) (cI cZ cB cC : ClassId) (sz : Nat) (v0 : Int32) (v1 : Int32) (r0 : Int32) (hm : mK0_nthMember v0 v1 = some r0) : Met l yK0_nthMember wsK0_nthMember rmK0_nthMember (va_Pc [.int v0, .int v1] (Pr D (tyL cI cZ cB cC) sz [])) (QI D (va_A [] sz) r0 []) 0 0 (va_A [] sz) := by
  refine Met.ofW (cc := cK0_nthMember) (maxL := 4) (ret := (some .int)) (by decide) rfl ?_
  intro p e s m args below meth c s₁ B hml hv
  obtain ⟨rfl, hsz, hP, hK, hD0, hN⟩ := hv
  have hx := B.exec
  have hb := B.bytes
  have hr := B.returns
  have hts := htsA (atoms_spec (ws := wsK0_nthMember) B.pre)
  have hown : s.vm.findClass RK0 = some m.cls := findClass_of_methodNamed B.named
  have hlocks := B.notSynchronized
  subst hsz
  have hD := hD0.self (sz := s.heap.size)
  generalize hAe : va_A [] s.heap.size = A at hD ⊢
  have hA : ∀ q : Nat, s.heap.size ≤ q → A q := fun q h => by rw [← hAe]; exact Or.inr h
  refine kstart (A := A) hP (fun H hP hS => ?_)
  have hl := lv_entry ([.int v0, .int v1]) (n := 4) (Nat.le_of_ble_eq_true rfl)
  rw [lg_entry_eq]
  generalize (lg_sl ([.int v0, .int v1]) ++ List.replicate (4 - (lg_sl ([.int v0, .int v1])).length) Slot.unset).toArray = ls at hl ⊢
  have hl : lv_has ls 4 [(0, .int v0), (1, .int v1)] := hl
  unfold mK0_nthMember at hm
  refine lv_iload_n hx hb dK0_nthMember_0 rfl (lv_at hl 1 rfl) ?_
  refine lv_istore_n (lv' := [(2, .int v1), (0, .int v0), (1, .int v1)]) hx hb dK0_nthMember_1 rfl hl (by decide) rfl (fun ls hl => ?_)
  refine lv_iconst (v := 0) hx hb dK0_nthMember_2 (by decide) ?_
  refine lv_istore_n (lv' := [(3, .int 0), (2, .int v1), (0, .int v0), (1, .int v1)]) hx hb dK0_nthMember_3 rfl hl (by decide) rfl (fun ls hl => ?_)
  have lx4 : ∀ (H : Heap) (locs : List Loc) (ls : Array Slot), mK0_nthMember_A4 = some r0 → va_P D vwCl [] H → va_D A [] → va_S A s.heap H locs → lv_has ls 4 [] → W p l e (headSpec wsK0_nthMember rmK0_nthMember).room s m ([.int v0, .int v1] : List Value).toArray below meth c H locs 0 0 (MQ below (QI D A r0 []) ([.int v0, .int v1] : List Value).toArray s 0 0 A) (F0 m 33 ls []) := by
    intro H locs ls hm hP hD hS hl
    unfold mK0_nthMember_A4 at hm
    refine lv_bipush (v := (-2)) hx hb dK0_nthMember_33 (by decide) ?_
    replace hm := Option.some.inj hm
    subst hm
    exact k_reti hx hb hr hlocks hP hD hS dK0_nthMember_35
  have lp4 : ∀ (n4 : Nat) (i2l4 : Int32) (i3l4 : Int32) (H : Heap) (locs : List Loc) (ls : Array Slot), mK0_nthMember_L4 v0 (mK0_nthMember_A4) n4 i2l4 i3l4 = some r0 → va_P D vwCl [] H → va_D A [] → va_S A s.heap H locs → lv_has ls 4 [(3, .int i3l4), (2, .int i2l4), (0, .int v0)] → W p l e (headSpec wsK0_nthMember rmK0_nthMember).room s m ([.int v0, .int v1] : List Value).toArray below meth c H locs 0 0 (MQ below (QI D A r0 []) ([.int v0, .int v1] : List Value).toArray s 0 0 A) (F0 m 4 ls []) := by
    intro n4
    induction n4 with
    | zero => intro i2l4 i3l4 H locs ls hm; exact nomatch (show none = _ from hm)
    | succ n4 ih4 =>
      intro i2l4 i3l4 H locs ls hm hP hD hS hl
      replace hm : mK0_nthMember_B4 v0 (mK0_nthMember_A4) (mK0_nthMember_L4 v0 (mK0_nthMember_A4) n4) i2l4 i3l4 = some r0 := hm
      unfold mK0_nthMember_B4 at hm
      refine lv_iload_n hx hb dK0_nthMember_4 rfl (lv_at hl 0 rfl) ?_
      refine lv_bipush (v := 12) hx hb dK0_nthMember_5 (by decide) ?_
      refine lv_icmp_ge (tgt := 33) hx hb dK0_nthMember_7 (by decide) (fun hc => ?_) (fun hc => ?_)
      · replace hm := ift hm hc
        exact lx4  _ _ _ hm hP hD hS (lv_sub hl [] rfl)
      · replace hm := iff_ hm hc
        refine lv_iload_n hx hb dK0_nthMember_10 rfl (lv_at hl 2 rfl) ?_
        refine lv_iload_n hx hb dK0_nthMember_11 rfl (lv_at hl 0 rfl) ?_
        obtain ⟨x1, ec2, hm⟩ := bd1_s hm
        have hPc : va_P D vwCl [] H := va_P0
        have hDc : va_D A [] := va_D0
        refine k_calli0 (va_runS (As := [.int v0, .int i3l4]) (rest := []) ⟨hx, hb, hml, hown, hts⟩ (kK0_hasMember l D cI cZ cB cC H.size v0 i3l4 x1 ec2) (va_cwS 2 hts (gdS wdt2_41 wdt1_200 wdt1_1 gkK0_hasMember) rfl rfl rfl (by decide +kernel) ⟨Nat.le_of_ble_eq_true rfl, Nat.le_of_ble_eq_true rfl⟩) ⟨Pr_blind, fun U hU hW => ⟨rfl, Pr_at hK hN hPc hDc hU hW⟩⟩ rfl rfl hl.1 rfl (lv_room (Nat.le_of_ble_eq_true rfl)) dK0_nthMember_12 ⟨Nat.le_of_ble_eq_true rfl, Nat.le_of_ble_eq_true rfl⟩) hP hD hS hA (fun H locs hP hD hS => ?_)
        refine lv_if_eq (tgt := 27) hx hb dK0_nthMember_15 (by decide) (fun hc => ?_) (fun hc => ?_)
        · replace hm := ift hm hc
          obtain ⟨x3, ex3, hm⟩ := bd1_s hm
          refine lv_iinc (v := x3) (lv' := [(3, .int x3), (2, .int i2l4), (0, .int v0)]) hx hb dK0_nthMember_27 hl (k := 0) rfl (by rw [← Option.some.inj ex3]; rfl) (by decide) rfl (fun ls hl => ?_)
          refine lv_goto (tgt := 4) hx hb dK0_nthMember_30 (by decide) ?_
          exact ih4 i2l4 x3 _ _ _ hm hP hD hS (lv_sub hl [0, 1, 2] rfl)
        · replace hm := iff_ hm hc
          refine lv_iload_n hx hb dK0_nthMember_18 rfl (lv_at hl 1 rfl) ?_
          refine lv_if_ne (tgt := 24) hx hb dK0_nthMember_19 (by decide) (fun hc => ?_) (fun hc => ?_)
          · replace hm := iff_ hm hc
            obtain ⟨x4, ex4, hm⟩ := bd1_s hm
            refine lv_iinc (v := x4) (lv' := [(2, .int x4), (3, .int i3l4), (0, .int v0)]) hx hb dK0_nthMember_24 hl (k := 1) rfl (by rw [← Option.some.inj ex4]; rfl) (by decide) rfl (fun ls hl => ?_)
            obtain ⟨x5, ex5, hm⟩ := bd1_s hm
            refine lv_iinc (v := x5) (lv' := [(3, .int x5), (2, .int x4), (0, .int v0)]) hx hb dK0_nthMember_27 hl (k := 1) rfl (by rw [← Option.some.inj ex5]; rfl) (by decide) rfl (fun ls hl => ?_)
            refine lv_goto (tgt := 4) hx hb dK0_nthMember_30 (by decide) ?_
            exact ih4 x4 x5 _ _ _ hm hP hD hS (lv_sub hl [0, 1, 2] rfl)
          · replace hm := ift hm hc
            refine lv_iload_n hx hb dK0_nthMember_22 rfl (lv_at hl 0 rfl) ?_
            replace hm := Option.some.inj hm
            subst hm
            exact k_reti hx hb hr hlocks hP hD hS dK0_nthMember_23
  exact lp4 5000 v1 0 _ _ _ hm hP hD hS (lv_sub hl [0, 1, 2] rfl)
def mK0_nthResult_A12 : Option (Int32) :=
  some ((-2))
def mK0_nthResult_J63 (i3l12 : Int32) (i4l12 : Int32) (rc12 : Int32 → Int32 → Option (Int32)) (i5j63 : Int32) : Option (Int32) :=
  bd1 (mJ2_bitCount i5j63) fun x3 => if x3 ≤ i3l12 then
  (bd1 (some (i3l12 - x3)) fun x5 => bd1 (some (i4l12 + 1)) fun x6 => rc12 x5 x6)
  else
  (bd1 (mK0_nthMember i5j63 i3l12) fun x7 => some ((12 * i4l12) + x7))
def mK0_nthResult_B12 (trob : Nat → Int32) (trme : Nat → Int32) (tiob : Nat → Int32) (time : Nat → Int32) (run : Int32) (ruki : Nat → Int32) (ruta : Nat → Int32) (rupr : Nat → Int32) (runu : Nat → Int32) (v2 : Int32) (kx12 : Option (Int32)) (rc12 : Int32 → Int32 → Option (Int32)) (i3l12 : Int32) (i4l12 : Int32) : Option (Int32) :=
  if run ≤ i4l12 then
  (kx12)
  else
  (bd1 (mK2_failing ruki ruta rupr runu trob trme i4l12) fun x1 => if v2 = 0 then
    (mK0_nthResult_J63 i3l12 i4l12 rc12 x1)
    else
    (bd1 (mK2_failing ruki ruta rupr runu tiob time i4l12) fun x9 => bd1 (some (x9 &&& (x1 ^^^ ((-1))))) fun x11 => mK0_nthResult_J63 i3l12 i4l12 rc12 x11))
def mK0_nthResult_L12 (trob : Nat → Int32) (trme : Nat → Int32) (tiob : Nat → Int32) (time : Nat → Int32) (run : Int32) (ruki : Nat → Int32) (ruta : Nat → Int32) (rupr : Nat → Int32) (runu : Nat → Int32) (v2 : Int32) (kx12 : Option (Int32)) : Nat → Int32 → Int32 → Option (Int32)
  | 0, _, _ => none
  | n + 1, i3l12, i4l12 => mK0_nthResult_B12 trob trme tiob time run ruki ruta rupr runu v2 kx12 (mK0_nthResult_L12 trob trme tiob time run ruki ruta rupr runu v2 kx12 n) i3l12 i4l12
def mK0_nthResult (trob : Nat → Int32) (trme : Nat → Int32) (tiob : Nat → Int32) (time : Nat → Int32) (run : Int32) (ruki : Nat → Int32) (ruta : Nat → Int32) (rupr : Nat → Int32) (runu : Nat → Int32) (v1 : Int32) (v2 : Int32) : Option (Int32) :=
  if 0 ≤ v1 then
  (mK0_nthResult_L12 trob trme tiob time run ruki ruta rupr runu v2 (mK0_nthResult_A12) 5000 v1 0)
  else
  (some ((-2)))
abbrev rmK0_nthResult : Room := { frames := 3, cells := 0, slots := 0, locals := 72 }
set_option maxHeartbeats 4000000 in
set_option maxRecDepth 100000 in
theorem kK0_nthResult (l : Launch) (D : va_G) (cI cZ cB cC : ClassId) (sz : Nat) (oa : Nat) (tra : Nat) (tra1 : Nat) (tra2 : Nat) (tra3 : Nat) (tia : Nat) (tia1 : Nat) (tia2 : Nat) (tia3 : Nat) (rua : Nat) (rua1 : Nat) (rua2 : Nat) (rua3 : Nat) (rua4 : Nat) (cha : Nat) (cha1 : Nat) (cha2 : Nat) (cha3 : Nat) (foa : Nat) (foa1 : Nat) (foa2 : Nat) (sba : Nat) (ocs : Int32) (oal : Int32) (olt : Int32) (ols : Int32) (trso : Int32) (trob : Nat → Int32) (trme : Nat → Int32) (trwi : Nat → Int32) (tiso : Int32) (tiob : Nat → Int32) (time : Nat → Int32) (tiwi : Nat → Int32) (run : Int32) (ruki : Nat → Int32) (ruta : Nat → Int32) (rupr : Nat → Int32) (runu : Nat → Int32) (chn : Int32) (chpu : Nat → Int32) (chco : Nat → Int32) (chwe : Nat → Int32) (fon : Int32) (fose : Nat → Int32) (fosu : Nat → Int32) (v1 : Int32) (v2 : Int32) (r0 : Int32) (hm : mK0_nthResult trob trme tiob time run ruki ruta rupr runu v1 v2 = some r0) : Met l yK0_nthResult wsK0_nthResult rmK0_nthResult (va_Pc [.ref oa, .int v1, .int v2] (Pr D (tyL cI cZ cB cC) sz (wM oa tra tra1 tra2 tra3 tia tia1 tia2 tia3 rua rua1 rua2 rua3 rua4 cha cha1 cha2 cha3 foa foa1 foa2 sba cI cZ cB cC ocs oal olt ols trso trob trme trwi tiso tiob time tiwi run ruki ruta rupr runu chn chpu chco chwe fon fose fosu))) (QI D (va_A (wM oa tra tra1 tra2 tra3 tia tia1 tia2 tia3 rua rua1 rua2 rua3 rua4 cha cha1 cha2 cha3 foa foa1 foa2 sba cI cZ cB cC ocs oal olt ols trso trob trme trwi tiso tiob time tiwi run ruki ruta rupr runu chn chpu chco chwe fon fose fosu) sz) r0 (wM oa tra tra1 tra2 tra3 tia tia1 tia2 tia3 rua rua1 rua2 rua3 rua4 cha cha1 cha2 cha3 foa foa1 foa2 sba cI cZ cB cC ocs oal olt ols trso trob trme trwi tiso tiob time tiwi run ruki ruta rupr runu chn chpu chco chwe fon fose fosu)) 0 0 (va_A (wM oa tra tra1 tra2 tra3 tia tia1 tia2 tia3 rua rua1 rua2 rua3 rua4 cha cha1 cha2 cha3 foa foa1 foa2 sba cI cZ cB cC ocs oal olt ols trso trob trme trwi tiso tiob time tiwi run ruki ruta rupr runu chn chpu chco chwe fon fose fosu) sz) := by
  refine Met.ofW (cc := cK0_nthResult) (maxL := 7) (ret := (some .int)) (by decide) rfl ?_
  intro p e s m args below meth c s₁ B hml hv
  obtain ⟨rfl, hsz, hP, hK, hD0, hN⟩ := hv
  have hx := B.exec
  have hb := B.bytes
  have hr := B.returns
  have hts := htsA (atoms_spec (ws := wsK0_nthResult) B.pre)
  have hown : s.vm.findClass RK0 = some m.cls := findClass_of_methodNamed B.named
  have hlocks := B.notSynchronized
  subst hsz
  have hD := hD0.self (sz := s.heap.size)
  generalize hAe : va_A (wM oa tra tra1 tra2 tra3 tia tia1 tia2 tia3 rua rua1 rua2 rua3 rua4 cha cha1 cha2 cha3 foa foa1 foa2 sba cI cZ cB cC ocs oal olt ols trso trob trme trwi tiso tiob time tiwi run ruki ruta rupr runu chn chpu chco chwe fon fose fosu) s.heap.size = A at hD ⊢
  have hA : ∀ q : Nat, s.heap.size ≤ q → A q := fun q h => by rw [← hAe]; exact Or.inr h
  refine kstart (A := A) hP (fun H hP hS => ?_)
  have hl := lv_entry ([.ref oa, .int v1, .int v2]) (n := 7) (Nat.le_of_ble_eq_true rfl)
  rw [lg_entry_eq]
  generalize (lg_sl ([.ref oa, .int v1, .int v2]) ++ List.replicate (7 - (lg_sl ([.ref oa, .int v1, .int v2])).length) Slot.unset).toArray = ls at hl ⊢
  have hl : lv_has ls 7 [(0, .ref oa), (1, .int v1), (2, .int v2)] := hl
  unfold mK0_nthResult at hm
  refine lv_iload_n hx hb dK0_nthResult_0 rfl (lv_at hl 1 rfl) ?_
  refine lv_if_ge (tgt := 7) hx hb dK0_nthResult_1 (by decide) (fun hc => ?_) (fun hc => ?_)
  · replace hm := ift hm hc
    refine lv_iload_n hx hb dK0_nthResult_7 rfl (lv_at hl 1 rfl) ?_
    refine lv_istore_n (lv' := [(3, .int v1), (0, .ref oa), (1, .int v1), (2, .int v2)]) hx hb dK0_nthResult_8 rfl hl (by decide) rfl (fun ls hl => ?_)
    refine lv_iconst (v := 0) hx hb dK0_nthResult_9 (by decide) ?_
    refine lv_istore (lv' := [(4, .int 0), (3, .int v1), (0, .ref oa), (1, .int v1), (2, .int v2)]) hx hb dK0_nthResult_10 hl (by decide) rfl (fun ls hl => ?_)
    have lx12 : ∀ (H : Heap) (locs : List Loc) (ls : Array Slot), mK0_nthResult_A12 = some r0 → va_P D vwCl (wM oa tra tra1 tra2 tra3 tia tia1 tia2 tia3 rua rua1 rua2 rua3 rua4 cha cha1 cha2 cha3 foa foa1 foa2 sba cI cZ cB cC ocs oal olt ols trso trob trme trwi tiso tiob time tiwi run ruki ruta rupr runu chn chpu chco chwe fon fose fosu) H → va_D A (wM oa tra tra1 tra2 tra3 tia tia1 tia2 tia3 rua rua1 rua2 rua3 rua4 cha cha1 cha2 cha3 foa foa1 foa2 sba cI cZ cB cC ocs oal olt ols trso trob trme trwi tiso tiob time tiwi run ruki ruta rupr runu chn chpu chco chwe fon fose fosu) → va_S A s.heap H locs → lv_has ls 7 [] → W p l e (headSpec wsK0_nthResult rmK0_nthResult).room s m ([.ref oa, .int v1, .int v2] : List Value).toArray below meth c H locs 0 0 (MQ below (QI D A r0 (wM oa tra tra1 tra2 tra3 tia tia1 tia2 tia3 rua rua1 rua2 rua3 rua4 cha cha1 cha2 cha3 foa foa1 foa2 sba cI cZ cB cC ocs oal olt ols trso trob trme trwi tiso tiob time tiwi run ruki ruta rupr runu chn chpu chco chwe fon fose fosu)) ([.ref oa, .int v1, .int v2] : List Value).toArray s 0 0 A) (F0 m 100 ls []) := by
      intro H locs ls hm hP hD hS hl
      unfold mK0_nthResult_A12 at hm
      refine lv_bipush (v := (-2)) hx hb dK0_nthResult_100 (by decide) ?_
      replace hm := Option.some.inj hm
      subst hm
      exact k_reti hx hb hr hlocks hP hD hS dK0_nthResult_102
    have lp12 : ∀ (n12 : Nat) (i3l12 : Int32) (i4l12 : Int32) (H : Heap) (locs : List Loc) (ls : Array Slot), mK0_nthResult_L12 trob trme tiob time run ruki ruta rupr runu v2 (mK0_nthResult_A12) n12 i3l12 i4l12 = some r0 → va_P D vwCl (wM oa tra tra1 tra2 tra3 tia tia1 tia2 tia3 rua rua1 rua2 rua3 rua4 cha cha1 cha2 cha3 foa foa1 foa2 sba cI cZ cB cC ocs oal olt ols trso trob trme trwi tiso tiob time tiwi run ruki ruta rupr runu chn chpu chco chwe fon fose fosu) H → va_D A (wM oa tra tra1 tra2 tra3 tia tia1 tia2 tia3 rua rua1 rua2 rua3 rua4 cha cha1 cha2 cha3 foa foa1 foa2 sba cI cZ cB cC ocs oal olt ols trso trob trme trwi tiso tiob time tiwi run ruki ruta rupr runu chn chpu chco chwe fon fose fosu) → va_S A s.heap H locs → lv_has ls 7 [(4, .int i4l12), (3, .int i3l12), (0, .ref oa), (2, .int v2)] → W p l e (headSpec wsK0_nthResult rmK0_nthResult).room s m ([.ref oa, .int v1, .int v2] : List Value).toArray below meth c H locs 0 0 (MQ below (QI D A r0 (wM oa tra tra1 tra2 tra3 tia tia1 tia2 tia3 rua rua1 rua2 rua3 rua4 cha cha1 cha2 cha3 foa foa1 foa2 sba cI cZ cB cC ocs oal olt ols trso trob trme trwi tiso tiob time tiwi run ruki ruta rupr runu chn chpu chco chwe fon fose fosu)) ([.ref oa, .int v1, .int v2] : List Value).toArray s 0 0 A) (F0 m 12 ls []) := by
      intro n12
      induction n12 with
      | zero => intro i3l12 i4l12 H locs ls hm; exact nomatch (show none = _ from hm)
      | succ n12 ih12 =>
        intro i3l12 i4l12 H locs ls hm hP hD hS hl
        replace hm : mK0_nthResult_B12 trob trme tiob time run ruki ruta rupr runu v2 (mK0_nthResult_A12) (mK0_nthResult_L12 trob trme tiob time run ruki ruta rupr runu v2 (mK0_nthResult_A12) n12) i3l12 i4l12 = some r0 := hm
        unfold mK0_nthResult_B12 at hm
        refine lv_iload hx hb dK0_nthResult_12 (lv_at hl 0 rfl) ?_
        refine lv_aload_n hx hb dK0_nthResult_14 rfl (lv_at hl 2 rfl) ?_
        refine va_get (D := D) (ci := 0) (v := .ref rua) (C := RK0) (T := TK0) (N := 10) hx hb hts inK0 hown hK hP 0 rfl rfl 2 (by decide) (hts _ wdt1_145) (fun _ h9 => h9) rfl dK0_nthResult_15 ?_
        refine va_getN (D := D) (ci := 2) (v := .int run) (C := RK2) (T := TK2) (N := 5) hx hb hts inK2 hown hK hP 9 rfl rfl 4 (by decide) (nw hN 4 rfl) (fun _ h9 => h9) rfl dK0_nthResult_18 ?_
        refine lv_icmp_ge (tgt := 100) hx hb dK0_nthResult_21 (by decide) (fun hc => ?_) (fun hc => ?_)
        · replace hm := ift hm hc
          exact lx12  _ _ _ hm hP hD hS (lv_sub hl [] rfl)
        · replace hm := iff_ hm hc
          refine lv_aload_n hx hb dK0_nthResult_24 rfl (lv_at hl 2 rfl) ?_
          refine va_get (D := D) (ci := 0) (v := .ref rua) (C := RK0) (T := TK0) (N := 10) hx hb hts inK0 hown hK hP 0 rfl rfl 2 (by decide) (hts _ wdt1_145) (fun _ h9 => h9) rfl dK0_nthResult_25 ?_
          refine lv_aload_n hx hb dK0_nthResult_28 rfl (lv_at hl 2 rfl) ?_
          refine va_get (D := D) (ci := 0) (v := .ref tra) (C := RK0) (T := TK0) (N := 10) hx hb hts inK0 hown hK hP 0 rfl rfl 0 (by decide) (hts _ wdt1_143) (fun _ h9 => h9) rfl dK0_nthResult_29 ?_
          refine lv_iload hx hb dK0_nthResult_32 (lv_at hl 0 rfl) ?_
          obtain ⟨x1, ec2, hm⟩ := bd1_s hm
          have hPc := hP.sub (ws' := (wRT rua rua1 rua2 rua3 rua4 tra tra1 tra2 tra3 cI cZ cB cC run ruki ruta rupr runu trso trob trme trwi)) [9, 10, 11, 12, 13, 1, 2, 3, 4] rfl
          have hDc := hD.sub (ws' := (wRT rua rua1 rua2 rua3 rua4 tra tra1 tra2 tra3 cI cZ cB cC run ruki ruta rupr runu trso trob trme trwi)) [9, 10, 11, 12, 13, 1, 2, 3, 4] (by decide) rfl
          refine k_calli (wr := [(oa, .inr (0, [.ref tra, .ref tia, .ref rua, .ref cha, .ref foa, .ref sba, .int ocs, .int oal, .int olt, .int ols])), (tia, .inr (1, [.ref tia1, .ref tia2, .ref tia3, .int tiso])), (tia1, .inl (cI, 72, .inl tiob)), (tia2, .inl (cI, 12, .inl time)), (tia3, .inl (cI, 12, .inl tiwi)), (cha, .inr (3, [.ref cha1, .ref cha2, .ref cha3, .int chn])), (cha1, .inl (cZ, 12, .inl chpu)), (cha2, .inl (cI, 12, .inl chco)), (cha3, .inl (cI, 12, .inl chwe)), (foa, .inr (4, [.ref foa1, .ref foa2, .int fon])), (foa1, .inl (cI, 30, .inl fose)), (foa2, .inl (cI, 30, .inl fosu))]) (w1 := (wRT rua rua1 rua2 rua3 rua4 tra tra1 tra2 tra3 cI cZ cB cC run ruki ruta rupr runu trso trob trme trwi)) (ws' := (wM oa tra tra1 tra2 tra3 tia tia1 tia2 tia3 rua rua1 rua2 rua3 rua4 cha cha1 cha2 cha3 foa foa1 foa2 sba cI cZ cB cC ocs oal olt ols trso trob trme trwi tiso tiob time tiwi run ruki ruta rupr runu chn chpu chco chwe fon fose fosu)) (va_runV (As := [.ref tra, .int i4l12]) (rest := []) ⟨hx, hb, hml, hown, hts⟩ (kK2_failing l D cI cZ cB cC H.size rua rua1 rua2 rua3 rua4 tra tra1 tra2 tra3 run ruki ruta rupr runu trso trob trme trwi i4l12 x1 ec2) (cwV 2 hts (gdV wdt2_9 wdt2_10 wdt2_11 wdt1_3 gkK2_failing) rfl rfl rfl (by decide +kernel) ⟨Nat.le_of_ble_eq_true rfl, Nat.le_of_ble_eq_true rfl⟩) ⟨Pr_blind, va_recv hK hPc (ci := 2) (q0 := 0) rfl rfl, fun U hU hW => ⟨rfl, Pr_at hK hN hPc hDc hU hW⟩⟩ rfl rfl hl.1 rfl (lv_room (Nat.le_of_ble_eq_true rfl)) dK0_nthResult_34 ⟨Nat.le_of_ble_eq_true rfl, Nat.le_of_ble_eq_true rfl⟩) hP hD hS hA [9, 10, 11, 12, 13, 1, 2, 3, 4] [0, 5, 6, 7, 8, 14, 15, 16, 17, 18, 19, 20] [0, 17, 18, 19, 20, 1, 2, 3, 4, 12, 13, 14, 15, 16, 5, 6, 7, 8, 9, 10, 11] rfl rfl (by decide) (by decide) (by decide) rfl (fun H locs hP hD hS => ?_)
          refine lv_istore (lv' := [(5, .int x1), (4, .int i4l12), (3, .int i3l12), (0, .ref oa), (2, .int v2)]) hx hb dK0_nthResult_37 hl (by decide) rfl (fun ls hl => ?_)
          refine lv_iload_n hx hb dK0_nthResult_39 rfl (lv_at hl 4 rfl) ?_
          have jn63 : ∀ (i5j63 : Int32) (H : Heap) (locs : List Loc) (ls : Array Slot), mK0_nthResult_J63 i3l12 i4l12 (mK0_nthResult_L12 trob trme tiob time run ruki ruta rupr runu v2 (mK0_nthResult_A12) n12) i5j63 = some r0 → va_P D vwCl (wM oa tra tra1 tra2 tra3 tia tia1 tia2 tia3 rua rua1 rua2 rua3 rua4 cha cha1 cha2 cha3 foa foa1 foa2 sba cI cZ cB cC ocs oal olt ols trso trob trme trwi tiso tiob time tiwi run ruki ruta rupr runu chn chpu chco chwe fon fose fosu) H → va_D A (wM oa tra tra1 tra2 tra3 tia tia1 tia2 tia3 rua rua1 rua2 rua3 rua4 cha cha1 cha2 cha3 foa foa1 foa2 sba cI cZ cB cC ocs oal olt ols trso trob trme trwi tiso tiob time tiwi run ruki ruta rupr runu chn chpu chco chwe fon fose fosu) → va_S A s.heap H locs → lv_has ls 7 [(0, .ref oa), (2, .int v2), (3, .int i3l12), (4, .int i4l12), (5, .int i5j63)] → W p l e (headSpec wsK0_nthResult rmK0_nthResult).room s m ([.ref oa, .int v1, .int v2] : List Value).toArray below meth c H locs 0 0 (MQ below (QI D A r0 (wM oa tra tra1 tra2 tra3 tia tia1 tia2 tia3 rua rua1 rua2 rua3 rua4 cha cha1 cha2 cha3 foa foa1 foa2 sba cI cZ cB cC ocs oal olt ols trso trob trme trwi tiso tiob time tiwi run ruki ruta rupr runu chn chpu chco chwe fon fose fosu)) ([.ref oa, .int v1, .int v2] : List Value).toArray s 0 0 A) (F0 m 63 ls []) := by
            intro i5j63 H locs ls hm hP hD hS hl
            unfold mK0_nthResult_J63 at hm
            refine lv_iload hx hb dK0_nthResult_63 (lv_at hl 4 rfl) ?_
            obtain ⟨x3, ec4, hm⟩ := bd1_s hm
            have hPc : va_P D vwCl [] H := va_P0
            have hDc : va_D A [] := va_D0
            refine k_calli0 (va_runS (As := [.int i5j63]) (rest := []) ⟨hx, hb, hml, hown, hts⟩ (kJ2_bitCount l D cI cZ cB cC H.size i5j63 x3 ec4) (va_cwS 1 hts (gdS wdt2_29 wdt2_24 wdt1_12 gkJ2_bitCount) rfl rfl rfl (by decide +kernel) ⟨Nat.le_of_ble_eq_true rfl, Nat.le_of_ble_eq_true rfl⟩) ⟨Pr_blind, fun U hU hW => ⟨rfl, Pr_at hK hN hPc hDc hU hW⟩⟩ rfl rfl hl.1 rfl (lv_room (Nat.le_of_ble_eq_true rfl)) dK0_nthResult_65 ⟨Nat.le_of_ble_eq_true rfl, Nat.le_of_ble_eq_true rfl⟩) hP hD hS hA (fun H locs hP hD hS => ?_)
            refine lv_istore (lv' := [(6, .int x3), (0, .ref oa), (2, .int v2), (3, .int i3l12), (4, .int i4l12), (5, .int i5j63)]) hx hb dK0_nthResult_68 hl (by decide) rfl (fun ls hl => ?_)
            refine lv_iload_n hx hb dK0_nthResult_70 rfl (lv_at hl 3 rfl) ?_
            refine lv_iload hx hb dK0_nthResult_71 (lv_at hl 0 rfl) ?_
            refine lv_icmp_ge (tgt := 89) hx hb dK0_nthResult_73 (by decide) (fun hc => ?_) (fun hc => ?_)
            · replace hm := ift hm hc
              refine lv_iload_n hx hb dK0_nthResult_89 rfl (lv_at hl 3 rfl) ?_
              refine lv_iload hx hb dK0_nthResult_90 (lv_at hl 0 rfl) ?_
              refine lv_isub hx hb dK0_nthResult_92 ?_
              obtain ⟨x5, ex5, hm⟩ := bd1_s hm
              refine topi (Option.some.inj ex5) ?_
              refine lv_istore_n (lv' := [(3, .int x5), (6, .int x3), (0, .ref oa), (2, .int v2), (4, .int i4l12), (5, .int i5j63)]) hx hb dK0_nthResult_93 rfl hl (by decide) rfl (fun ls hl => ?_)
              obtain ⟨x6, ex6, hm⟩ := bd1_s hm
              refine lv_iinc (v := x6) (lv' := [(4, .int x6), (3, .int x5), (6, .int x3), (0, .ref oa), (2, .int v2), (5, .int i5j63)]) hx hb dK0_nthResult_94 hl (k := 4) rfl (by rw [← Option.some.inj ex6]; rfl) (by decide) rfl (fun ls hl => ?_)
              refine lv_goto (tgt := 12) hx hb dK0_nthResult_97 (by decide) ?_
              exact ih12 x5 x6 _ _ _ hm hP hD hS (lv_sub hl [0, 1, 3, 4] rfl)
            · replace hm := iff_ hm hc
              refine lv_bipush (v := 12) hx hb dK0_nthResult_76 (by decide) ?_
              refine lv_iload hx hb dK0_nthResult_78 (lv_at hl 4 rfl) ?_
              refine lv_imul hx hb dK0_nthResult_80 ?_
              refine lv_iload hx hb dK0_nthResult_81 (lv_at hl 5 rfl) ?_
              refine lv_iload_n hx hb dK0_nthResult_83 rfl (lv_at hl 3 rfl) ?_
              obtain ⟨x7, ec8, hm⟩ := bd1_s hm
              have hPc : va_P D vwCl [] H := va_P0
              have hDc : va_D A [] := va_D0
              refine k_calli0 (va_runS (As := [.int i5j63, .int i3l12]) (rest := [.int (12 * i4l12)]) ⟨hx, hb, hml, hown, hts⟩ (kK0_nthMember l D cI cZ cB cC H.size i5j63 i3l12 x7 ec8) (va_cwS 2 hts (gdS wdt2_38 wdt2_39 wdt1_1 gkK0_nthMember) rfl rfl rfl (by decide +kernel) ⟨Nat.le_of_ble_eq_true rfl, Nat.le_of_ble_eq_true rfl⟩) ⟨Pr_blind, fun U hU hW => ⟨rfl, Pr_at hK hN hPc hDc hU hW⟩⟩ rfl rfl hl.1 rfl (lv_room (Nat.le_of_ble_eq_true rfl)) dK0_nthResult_84 ⟨Nat.le_of_ble_eq_true rfl, Nat.le_of_ble_eq_true rfl⟩) hP hD hS hA (fun H locs hP hD hS => ?_)
              refine lv_iadd hx hb dK0_nthResult_87 ?_
              replace hm := Option.some.inj hm
              subst hm
              exact k_reti hx hb hr hlocks hP hD hS dK0_nthResult_88
          refine lv_if_eq (tgt := 63) hx hb dK0_nthResult_40 (by decide) (fun hc => ?_) (fun hc => ?_)
          · replace hm := ift hm hc
            exact jn63 x1 _ _ _ hm hP hD hS (lv_sub hl [3, 4, 2, 1, 0] rfl)
          · replace hm := iff_ hm hc
            refine lv_aload_n hx hb dK0_nthResult_43 rfl (lv_at hl 3 rfl) ?_
            refine va_get (D := D) (ci := 0) (v := .ref rua) (C := RK0) (T := TK0) (N := 10) hx hb hts inK0 hown hK hP 0 rfl rfl 2 (by decide) (hts _ wdt1_145) (fun _ h9 => h9) rfl dK0_nthResult_44 ?_
            refine lv_aload_n hx hb dK0_nthResult_47 rfl (lv_at hl 3 rfl) ?_
            refine va_get (D := D) (ci := 0) (v := .ref tia) (C := RK0) (T := TK0) (N := 10) hx hb hts inK0 hown hK hP 0 rfl rfl 1 (by decide) (hts _ wdt1_144) (fun _ h9 => h9) rfl dK0_nthResult_48 ?_
            refine lv_iload hx hb dK0_nthResult_51 (lv_at hl 1 rfl) ?_
            obtain ⟨x9, ec10, hm⟩ := bd1_s hm
            have hPc := hP.sub (ws' := (wRT rua rua1 rua2 rua3 rua4 tia tia1 tia2 tia3 cI cZ cB cC run ruki ruta rupr runu tiso tiob time tiwi)) [9, 10, 11, 12, 13, 5, 6, 7, 8] rfl
            have hDc := hD.sub (ws' := (wRT rua rua1 rua2 rua3 rua4 tia tia1 tia2 tia3 cI cZ cB cC run ruki ruta rupr runu tiso tiob time tiwi)) [9, 10, 11, 12, 13, 5, 6, 7, 8] (by decide) rfl
            refine k_calli (wr := [(oa, .inr (0, [.ref tra, .ref tia, .ref rua, .ref cha, .ref foa, .ref sba, .int ocs, .int oal, .int olt, .int ols])), (tra, .inr (1, [.ref tra1, .ref tra2, .ref tra3, .int trso])), (tra1, .inl (cI, 72, .inl trob)), (tra2, .inl (cI, 12, .inl trme)), (tra3, .inl (cI, 12, .inl trwi)), (cha, .inr (3, [.ref cha1, .ref cha2, .ref cha3, .int chn])), (cha1, .inl (cZ, 12, .inl chpu)), (cha2, .inl (cI, 12, .inl chco)), (cha3, .inl (cI, 12, .inl chwe)), (foa, .inr (4, [.ref foa1, .ref foa2, .int fon])), (foa1, .inl (cI, 30, .inl fose)), (foa2, .inl (cI, 30, .inl fosu))]) (w1 := (wRT rua rua1 rua2 rua3 rua4 tia tia1 tia2 tia3 cI cZ cB cC run ruki ruta rupr runu tiso tiob time tiwi)) (ws' := (wM oa tra tra1 tra2 tra3 tia tia1 tia2 tia3 rua rua1 rua2 rua3 rua4 cha cha1 cha2 cha3 foa foa1 foa2 sba cI cZ cB cC ocs oal olt ols trso trob trme trwi tiso tiob time tiwi run ruki ruta rupr runu chn chpu chco chwe fon fose fosu)) (va_runV (As := [.ref tia, .int i4l12]) (rest := []) ⟨hx, hb, hml, hown, hts⟩ (kK2_failing l D cI cZ cB cC H.size rua rua1 rua2 rua3 rua4 tia tia1 tia2 tia3 run ruki ruta rupr runu tiso tiob time tiwi i4l12 x9 ec10) (cwV 2 hts (gdV wdt2_9 wdt2_10 wdt2_11 wdt1_3 gkK2_failing) rfl rfl rfl (by decide +kernel) ⟨Nat.le_of_ble_eq_true rfl, Nat.le_of_ble_eq_true rfl⟩) ⟨Pr_blind, va_recv hK hPc (ci := 2) (q0 := 0) rfl rfl, fun U hU hW => ⟨rfl, Pr_at hK hN hPc hDc hU hW⟩⟩ rfl rfl hl.1 rfl (lv_room (Nat.le_of_ble_eq_true rfl)) dK0_nthResult_53 ⟨Nat.le_of_ble_eq_true rfl, Nat.le_of_ble_eq_true rfl⟩) hP hD hS hA [9, 10, 11, 12, 13, 5, 6, 7, 8] [0, 1, 2, 3, 4, 14, 15, 16, 17, 18, 19, 20] [0, 1, 2, 3, 4, 17, 18, 19, 20, 12, 13, 14, 15, 16, 5, 6, 7, 8, 9, 10, 11] rfl rfl (by decide) (by decide) (by decide) rfl (fun H locs hP hD hS => ?_)
            refine lv_iload hx hb dK0_nthResult_56 (lv_at hl 0 rfl) ?_
            refine lv_iconst (v := (-1)) hx hb dK0_nthResult_58 (by decide) ?_
            refine lv_ixor hx hb dK0_nthResult_59 ?_
            refine lv_iand hx hb dK0_nthResult_60 ?_
            obtain ⟨x11, ex11, hm⟩ := bd1_s hm
            refine topi (Option.some.inj ex11) ?_
            refine lv_istore (lv' := [(5, .int x11), (4, .int i4l12), (3, .int i3l12), (0, .ref oa), (2, .int v2)]) hx hb dK0_nthResult_61 hl (by decide) rfl (fun ls hl => ?_)
            exact jn63 x11 _ _ _ hm hP hD hS (lv_sub hl [3, 4, 2, 1, 0] rfl)
    exact lp12 5000 v1 0 _ _ _ hm hP hD hS (lv_sub hl [0, 1, 2, 4] rfl)
  · replace hm := iff_ hm hc
    refine lv_bipush (v := (-2)) hx hb dK0_nthResult_4 (by decide) ?_
    replace hm := Option.some.inj hm
    subst hm
    exact k_reti hx hb hr hlocks hP hD hS dK0_nthResult_6
def mK0_result (trob : Nat → Int32) (trme : Nat → Int32) (tiob : Nat → Int32) (time : Nat → Int32) (run : Int32) (ruki : Nat → Int32) (ruta : Nat → Int32) (rupr : Nat → Int32) (runu : Nat → Int32) (v1 : Int32) : Option (Int32) :=
  bd1 (mK0_nthResult trob trme tiob time run ruki ruta rupr runu v1 0) fun x1 => some x1
abbrev rmK0_result : Room := { frames := 4, cells := 0, slots := 0, locals := 98 }
set_option maxHeartbeats 4000000 in
set_option maxRecDepth 100000 in
theorem kK0_result (l : Launch) (D : va_G) (cI cZ cB cC : ClassId) (sz : Nat) (oa : Nat) (tra : Nat) (tra1 : Nat) (tra2 : Nat) (tra3 : Nat) (tia : Nat) (tia1 : Nat) (tia2 : Nat) (tia3 : Nat) (rua : Nat) (rua1 : Nat) (rua2 : Nat) (rua3 : Nat) (rua4 : Nat) (cha : Nat) (cha1 : Nat) (cha2 : Nat) (cha3 : Nat) (foa : Nat) (foa1 : Nat) (foa2 : Nat) (sba : Nat) (ocs : Int32) (oal : Int32) (olt : Int32) (ols : Int32) (trso : Int32) (trob : Nat → Int32) (trme : Nat → Int32) (trwi : Nat → Int32) (tiso : Int32) (tiob : Nat → Int32) (time : Nat → Int32) (tiwi : Nat → Int32) (run : Int32) (ruki : Nat → Int32) (ruta : Nat → Int32) (rupr : Nat → Int32) (runu : Nat → Int32) (chn : Int32) (chpu : Nat → Int32) (chco : Nat → Int32) (chwe : Nat → Int32) (fon : Int32) (fose : Nat → Int32) (fosu : Nat → Int32) (v1 : Int32) (r0 : Int32) (hm : mK0_result trob trme tiob time run ruki ruta rupr runu v1 = some r0) : Met l yK0_result wsK0_result rmK0_result (va_Pc [.ref oa, .int v1] (Pr D (tyL cI cZ cB cC) sz (wM oa tra tra1 tra2 tra3 tia tia1 tia2 tia3 rua rua1 rua2 rua3 rua4 cha cha1 cha2 cha3 foa foa1 foa2 sba cI cZ cB cC ocs oal olt ols trso trob trme trwi tiso tiob time tiwi run ruki ruta rupr runu chn chpu chco chwe fon fose fosu))) (QI D (va_A (wM oa tra tra1 tra2 tra3 tia tia1 tia2 tia3 rua rua1 rua2 rua3 rua4 cha cha1 cha2 cha3 foa foa1 foa2 sba cI cZ cB cC ocs oal olt ols trso trob trme trwi tiso tiob time tiwi run ruki ruta rupr runu chn chpu chco chwe fon fose fosu) sz) r0 (wM oa tra tra1 tra2 tra3 tia tia1 tia2 tia3 rua rua1 rua2 rua3 rua4 cha cha1 cha2 cha3 foa foa1 foa2 sba cI cZ cB cC ocs oal olt ols trso trob trme trwi tiso tiob time tiwi run ruki ruta rupr runu chn chpu chco chwe fon fose fosu)) 0 0 (va_A (wM oa tra tra1 tra2 tra3 tia tia1 tia2 tia3 rua rua1 rua2 rua3 rua4 cha cha1 cha2 cha3 foa foa1 foa2 sba cI cZ cB cC ocs oal olt ols trso trob trme trwi tiso tiob time tiwi run ruki ruta rupr runu chn chpu chco chwe fon fose fosu) sz) := by
  refine Met.ofW (cc := cK0_result) (maxL := 2) (ret := (some .int)) (by decide) rfl ?_
  intro p e s m args below meth c s₁ B hml hv
  obtain ⟨rfl, hsz, hP, hK, hD0, hN⟩ := hv
  have hx := B.exec
  have hb := B.bytes
  have hr := B.returns
  have hts := htsA (atoms_spec (ws := wsK0_result) B.pre)
  have hown : s.vm.findClass RK0 = some m.cls := findClass_of_methodNamed B.named
  have hlocks := B.notSynchronized
  subst hsz
  have hD := hD0.self (sz := s.heap.size)
  generalize hAe : va_A (wM oa tra tra1 tra2 tra3 tia tia1 tia2 tia3 rua rua1 rua2 rua3 rua4 cha cha1 cha2 cha3 foa foa1 foa2 sba cI cZ cB cC ocs oal olt ols trso trob trme trwi tiso tiob time tiwi run ruki ruta rupr runu chn chpu chco chwe fon fose fosu) s.heap.size = A at hD ⊢
  have hA : ∀ q : Nat, s.heap.size ≤ q → A q := fun q h => by rw [← hAe]; exact Or.inr h
  refine kstart (A := A) hP (fun H hP hS => ?_)
  have hl := lv_entry ([.ref oa, .int v1]) (n := 2) (Nat.le_of_ble_eq_true rfl)
  rw [lg_entry_eq]
  generalize (lg_sl ([.ref oa, .int v1]) ++ List.replicate (2 - (lg_sl ([.ref oa, .int v1])).length) Slot.unset).toArray = ls at hl ⊢
  have hl : lv_has ls 2 [(0, .ref oa), (1, .int v1)] := hl
  unfold mK0_result at hm
  refine lv_aload_n hx hb dK0_result_0 rfl (lv_at hl 0 rfl) ?_
  refine lv_iload_n hx hb dK0_result_1 rfl (lv_at hl 1 rfl) ?_
  refine lv_iconst (v := 0) hx hb dK0_result_2 (by decide) ?_
  obtain ⟨x1, ec2, hm⟩ := bd1_s hm
  have hPc := hP.sub (ws' := (wM oa tra tra1 tra2 tra3 tia tia1 tia2 tia3 rua rua1 rua2 rua3 rua4 cha cha1 cha2 cha3 foa foa1 foa2 sba cI cZ cB cC ocs oal olt ols trso trob trme trwi tiso tiob time tiwi run ruki ruta rupr runu chn chpu chco chwe fon fose fosu)) [0, 1, 2, 3, 4, 5, 6, 7, 8, 9, 10, 11, 12, 13, 14, 15, 16, 17, 18, 19, 20] rfl
  have hDc := hD.sub (ws' := (wM oa tra tra1 tra2 tra3 tia tia1 tia2 tia3 rua rua1 rua2 rua3 rua4 cha cha1 cha2 cha3 foa foa1 foa2 sba cI cZ cB cC ocs oal olt ols trso trob trme trwi tiso tiob time tiwi run ruki ruta rupr runu chn chpu chco chwe fon fose fosu)) [0, 1, 2, 3, 4, 5, 6, 7, 8, 9, 10, 11, 12, 13, 14, 15, 16, 17, 18, 19, 20] (by decide) rfl
  refine k_calli (wr := []) (w1 := (wM oa tra tra1 tra2 tra3 tia tia1 tia2 tia3 rua rua1 rua2 rua3 rua4 cha cha1 cha2 cha3 foa foa1 foa2 sba cI cZ cB cC ocs oal olt ols trso trob trme trwi tiso tiob time tiwi run ruki ruta rupr runu chn chpu chco chwe fon fose fosu)) (ws' := (wM oa tra tra1 tra2 tra3 tia tia1 tia2 tia3 rua rua1 rua2 rua3 rua4 cha cha1 cha2 cha3 foa foa1 foa2 sba cI cZ cB cC ocs oal olt ols trso trob trme trwi tiso tiob time tiwi run ruki ruta rupr runu chn chpu chco chwe fon fose fosu)) (va_runV (As := [.int v1, .int 0]) (rest := []) ⟨hx, hb, hml, hown, hts⟩ (kK0_nthResult l D cI cZ cB cC H.size oa tra tra1 tra2 tra3 tia tia1 tia2 tia3 rua rua1 rua2 rua3 rua4 cha cha1 cha2 cha3 foa foa1 foa2 sba ocs oal olt ols trso trob trme trwi tiso tiob time tiwi run ruki ruta rupr runu chn chpu chco chwe fon fose fosu v1 0 x1 ec2) (cwV 2 hts (gdV wdt2_34 wdt2_36 wds1_3 wdt1_1 gkK0_nthResult) rfl rfl rfl (by decide +kernel) ⟨Nat.le_of_ble_eq_true rfl, Nat.le_of_ble_eq_true rfl⟩) ⟨Pr_blind, va_recv hK hPc (ci := 0) (q0 := 0) rfl rfl, fun U hU hW => ⟨rfl, Pr_at hK hN hPc hDc hU hW⟩⟩ rfl rfl hl.1 rfl (lv_room (Nat.le_of_ble_eq_true rfl)) dK0_result_3 ⟨Nat.le_of_ble_eq_true rfl, Nat.le_of_ble_eq_true rfl⟩) hP hD hS hA [0, 1, 2, 3, 4, 5, 6, 7, 8, 9, 10, 11, 12, 13, 14, 15, 16, 17, 18, 19, 20] [] [0, 1, 2, 3, 4, 5, 6, 7, 8, 9, 10, 11, 12, 13, 14, 15, 16, 17, 18, 19, 20] rfl rfl (by decide) (by decide) (by decide) rfl (fun H locs hP hD hS => ?_)
  replace hm := Option.some.inj hm
  subst hm
  exact k_reti hx hb hr hlocks hP hD hS dK0_result_6
def mK1_isMember (tme : Nat → Int32) (v1 : Int32) (v2 : Int32) : Option (Int32) :=
  bd1 (rd tme 12 v2) fun x1 => bd1 (mK0_hasMember x1 v1) fun x2 => bd1 (bz x2) fun x4 => some x4
abbrev rmK1_isMember : Room := { frames := 1, cells := 0, slots := 0, locals := 21 }
set_option maxHeartbeats 4000000 in
set_option maxRecDepth 100000 in
theorem kK1_isMember (l : Launch) (D : va_G) (cI cZ cB cC : ClassId) (sz : Nat) (ta : Nat) (ta1 : Nat) (ta2 : Nat) (ta3 : Nat) (tso : Int32) (tob : Nat → Int32) (tme : Nat → Int32) (twi : Nat → Int32) (v1 : Int32) (v2 : Int32) (r0 : Int32) (hm : mK1_isMember tme v1 v2 = some r0) : Met l yK1_isMember wsK1_isMember rmK1_isMember (va_Pc [.ref ta, .int v1, .int v2] (Pr D (tyL cI cZ cB cC) sz (wT ta ta1 ta2 ta3 cI cZ cB cC tso tob tme twi))) (QI D (va_A (wT ta ta1 ta2 ta3 cI cZ cB cC tso tob tme twi) sz) r0 (wT ta ta1 ta2 ta3 cI cZ cB cC tso tob tme twi)) 0 0 (va_A (wT ta ta1 ta2 ta3 cI cZ cB cC tso tob tme twi) sz) := by
  refine Met.ofW (cc := cK1_isMember) (maxL := 3) (ret := (some .boolean)) (by decide) rfl ?_
  intro p e s m args below meth c s₁ B hml hv
  obtain ⟨rfl, hsz, hP, hK, hD0, hN⟩ := hv
  have hx := B.exec
  have hb := B.bytes
  have hr := B.returns
  have hts := htsA (atoms_spec (ws := wsK1_isMember) B.pre)
  have hown : s.vm.findClass RK1 = some m.cls := findClass_of_methodNamed B.named
  have hlocks := B.notSynchronized
  subst hsz
  have hD := hD0.self (sz := s.heap.size)
  generalize hAe : va_A (wT ta ta1 ta2 ta3 cI cZ cB cC tso tob tme twi) s.heap.size = A at hD ⊢
  have hA : ∀ q : Nat, s.heap.size ≤ q → A q := fun q h => by rw [← hAe]; exact Or.inr h
  refine kstart (A := A) hP (fun H hP hS => ?_)
  have hl := lv_entry ([.ref ta, .int v1, .int v2]) (n := 3) (Nat.le_of_ble_eq_true rfl)
  rw [lg_entry_eq]
  generalize (lg_sl ([.ref ta, .int v1, .int v2]) ++ List.replicate (3 - (lg_sl ([.ref ta, .int v1, .int v2])).length) Slot.unset).toArray = ls at hl ⊢
  have hl : lv_has ls 3 [(0, .ref ta), (1, .int v1), (2, .int v2)] := hl
  unfold mK1_isMember at hm
  refine lv_aload_n hx hb dK1_isMember_0 rfl (lv_at hl 0 rfl) ?_
  refine va_get (D := D) (ci := 1) (v := .ref ta2) (C := RK1) (T := TK1) (N := 4) hx hb hts inK1 hown hK hP 0 rfl rfl 1 (by decide) (hts _ wdt1_33) (fun _ h9 => h9) rfl dK1_isMember_1 ?_
  refine lv_iload_n hx hb dK1_isMember_4 rfl (lv_at hl 2 rfl) ?_
  obtain ⟨x1, ex1, hm⟩ := bd1_s hm
  obtain ⟨hix1, ex1⟩ := rd_s ex1
  refine va_iald hx hb hK hP 2 0 rfl rfl hix1 dK1_isMember_5 ?_
  refine topi ex1 ?_
  refine lv_iload_n hx hb dK1_isMember_6 rfl (lv_at hl 1 rfl) ?_
  obtain ⟨x2, ec3, hm⟩ := bd1_s hm
  have hPc : va_P D vwCl [] H := va_P0
  have hDc : va_D A [] := va_D0
  refine k_calli0 (va_runSN (As := [.int x1, .int v1]) (rest := []) ⟨hx, hb, hml, hown, hts⟩ (kK0_hasMember l D cI cZ cB cC H.size x1 v1 x2 ec3) ⟨va_cnB 2 hts gkK0_hasMember rfl rfl rfl (nwM hN 7 rfl) (hts _ wdt1_1) (by decide +kernel) ⟨Nat.le_of_ble_eq_true rfl, Nat.le_of_ble_eq_true rfl⟩, (hts _ wdt1_200), trivial⟩ ⟨Pr_blind, fun U hU hW => ⟨rfl, Pr_at hK hN hPc hDc hU hW⟩⟩ rfl rfl hl.1 rfl (lv_room (Nat.le_of_ble_eq_true rfl)) dK1_isMember_7 ⟨Nat.le_of_ble_eq_true rfl, Nat.le_of_ble_eq_true rfl⟩) hP hD hS hA (fun H locs hP hD hS => ?_)
  obtain ⟨x4, ex4, hm⟩ := bd1_s hm
  obtain ⟨eex4, hzx4⟩ := bz_s ex4
  refine topi eex4 ?_
  replace hm := Option.some.inj hm
  subst hm
  exact k_retz hx hb hr hlocks (bz_n hzx4) hP hD hS dK1_isMember_10
