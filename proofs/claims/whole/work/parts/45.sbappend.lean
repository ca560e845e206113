def mJ1_append_LStringLAbstractStringBuilder (sco : Int32) (sct : Int32) (sn : Nat) (sb : Nat → Int32) (xn : Nat) (xf : Nat → Int32) : Option (Int32 × Nat × (Nat → Int32) × Nat × Nat) :=
  bd1 (mJ3_length xn) fun x1 => bd4 (mJ1_ens sco sn sb (sct + x1)) fun x3 x4 x5 x6 => wa3 x5 x6 <| bd1 (mJ1_putStringAt sco x3 x4 xn xf sct) fun x9 => bd1 (some (sct + x1)) fun x11 => some (x11, x3, x9, 0, 0)
abbrev rmJ1_append_LStringLAbstractStringBuilder (mc ms : Nat) : Room := { frames := 5, cells := mc, slots := ms, locals := 222 }
set_option maxHeartbeats 4000000 in
set_option maxRecDepth 100000 in
theorem kJ1_append_LStringLAbstractStringBuilder (l : Launch) (D : va_G) (cI cZ cB cC : ClassId) (sz : Nat) (sa : Nat) (sco : Int32) (sml : Int32) (sct : Int32) (s_ad : Nat) (sn : Nat) (sb : Nat → Int32) (xa xv xn : Nat) (xf : Nat → Int32) (sct_r : Int32) (sn_r : Nat) (sb_r : Nat → Int32) (mc_r : Nat) (ms_r : Nat) (hm : mJ1_append_LStringLAbstractStringBuilder sco sct sn sb xn xf = some (sct_r, sn_r, sb_r, mc_r, ms_r)) : Met l yJ1_append_LStringLAbstractStringBuilder wzJ1_append_LStringLAbstractStringBuilder (rmJ1_append_LStringLAbstractStringBuilder mc_r ms_r) (va_Pc [.ref sa, .ref xa] (PrE1 D (tyL cI cZ cB cC) sz (wS sa cI cZ cB cC sco sml sct s_ad sn sb) xa xv xn xf)) (QRd D (va_A (wS sa cI cZ cB cC sco sml sct s_ad sn sb) sz) sa (fun u => (wS sa cI cZ cB cC sco sml sct_r u sn_r sb_r))) mc_r ms_r (va_A (wS sa cI cZ cB cC sco sml sct s_ad sn sb) sz) := by
  refine Met.ofW (cc := cJ1_append_LStringLAbstractStringBuilder) (maxL := 3) (ret := (some (.object "java/lang/AbstractStringBuilder"))) (by decide) rfl ?_
  intro p e s m args below meth c s₁ B hml hv
  obtain ⟨rfl, ⟨hsz, hP, hK, hD0, hN⟩, hE, hX⟩ := hv
  have hx := B.exec
  have hb := B.bytes
  have hr := B.returns
  have hts := htsB (atoms_spec (ws := wzJ1_append_LStringLAbstractStringBuilder) B.pre)
  have hown : s.vm.findClass RJ1 = some m.cls := findClass_of_methodNamed B.named
  have hlocks := B.notSynchronized
  subst hsz
  have hD := hD0.self (sz := s.heap.size)
  generalize hAe : va_A (wS sa cI cZ cB cC sco sml sct s_ad sn sb) s.heap.size = A at hD hE hX ⊢
  have hA : ∀ q : Nat, s.heap.size ≤ q → A q := fun q h => by rw [← hAe]; exact Or.inr h
  refine kstart (A := A) hP (fun H hP hS => ?_)
  have hl := lv_entry ([.ref sa, .ref xa]) (n := 3) (Nat.le_of_ble_eq_true rfl)
  rw [lg_entry_eq]
  generalize (lg_sl ([.ref sa, .ref xa]) ++ List.replicate (3 - (lg_sl ([.ref sa, .ref xa])).length) Slot.unset).toArray = ls at hl ⊢
  have hl : lv_has ls 3 [(0, .ref sa), (1, .ref xa)] := hl
  unfold mJ1_append_LStringLAbstractStringBuilder at hm
  obtain ⟨hE0z, ⟨dg1, hE1z, hE1t⟩, ⟨dg2, hE2z, hE2t⟩, hE4, ⟨ka0, kv0, hkr0, hk0⟩, ⟨ka1, kv1, hkr1, hk1⟩, ⟨ka2, kv2, hkr2, hk2⟩⟩ := id hE
  refine lv_aload_n hx hb dJ1_append_LStringLAbstractStringBuilder_0 rfl (lv_at hl 1 rfl) ?_
  refine lv_ifnonnull (tgt := 9) hx hb dJ1_append_LStringLAbstractStringBuilder_1 (by decide) ?_
  refine lv_aload_n hx hb dJ1_append_LStringLAbstractStringBuilder_9 rfl (lv_at hl 1 rfl) ?_
  obtain ⟨x1, ec2, hm⟩ := bd1_s hm
  have hPc : va_P D vwCl [] H := va_P0
  have hDc : va_D A [] := va_D0
  have hFc := va_free (wc := []) hD hS hA [] rfl
  refine k_calli0 (va_runV (As := []) (rest := []) ⟨hx, hb, hml, hown, hts⟩ (kJ3_length l D cI cZ cB cC H.size xa xv xn xf x1 ec2) (cwV 0 hts (gdV2 (up wdt3_66) (up wdt3_67) (up wdt3_68) (up wdt1_8) gzJ3_length) rfl rfl rfl (by decide +kernel) ⟨Nat.le_of_ble_eq_true rfl, Nat.le_of_ble_eq_true rfl⟩) ⟨PrE1_blind, va_Orecv hX.1 hS, fun U hU hW => ⟨rfl, Pr_at hK hN hPc hDc hU hW, EN_at hE hS hFc hU hW, StrK_at hX hS hFc hU hW⟩⟩ rfl rfl hl.1 rfl (lv_room (Nat.le_of_ble_eq_true rfl)) dJ1_append_LStringLAbstractStringBuilder_10 ⟨(by show 0 + 0 ≤ mc_r; omega), (by show 0 + 0 ≤ ms_r; omega)⟩) hP hD hS hA (fun H locs hP hD hS => ?_)
  refine lv_istore_n (lv' := [(2, .int x1), (0, .ref sa), (1, .ref xa)]) hx hb dJ1_append_LStringLAbstractStringBuilder_13 rfl hl (by decide) rfl (fun ls hl => ?_)
  refine lv_aload_n hx hb dJ1_append_LStringLAbstractStringBuilder_14 rfl (lv_at hl 1 rfl) ?_
  refine lv_aload_n hx hb dJ1_append_LStringLAbstractStringBuilder_15 rfl (lv_at hl 1 rfl) ?_
  refine va_get (D := D) (ci := 6) (v := .int sct) (C := RK6) (T := TK6) (N := 4) hx hb hts inK6b hown hK hP 0 rfl rfl 3 (by decide) (hts _ (up wdt1_132)) (fun _ h9 => h9) rfl dJ1_append_LStringLAbstractStringBuilder_16 ?_
  refine lv_iload_n hx hb dJ1_append_LStringLAbstractStringBuilder_19 rfl (lv_at hl 0 rfl) ?_
  refine lv_iadd hx hb dJ1_append_LStringLAbstractStringBuilder_20 ?_
  obtain ⟨x3, x4, x5, x6, ec7, hm⟩ := bd4_s hm
  obtain ⟨mcec7, msec7, hm, hcec7, hsec7⟩ := wa3_s hm
  have hPc := hP.sub (ws' := (wS sa cI cZ cB cC sco sml sct s_ad sn sb)) [0, 1] rfl
  have hDc := hD.sub (ws' := (wS sa cI cZ cB cC sco sml sct s_ad sn sb)) [0, 1] (by decide) rfl
  have hFc := va_free (wc := (wS sa cI cZ cB cC sco sml sct s_ad sn sb)) hD hS hA [0, 1] rfl
  refine k_callvdc (wr := []) (w1 := fun u => (wS sa cI cZ cB cC sco sml sct u x3 x4)) (ws' := fun u => (wS sa cI cZ cB cC sco sml sct u x3 x4)) (va_runU (As := [.int (sct + x1)]) (rest := []) ⟨hx, hb, hml, hown, hts⟩ (kJ1_ens l D cI cZ cB cC H.size sa sco sml sct s_ad sn sb (sct + x1) x3 x4 x5 x6 ec7) (va_cwU (C := RK6) (owner := RJ1) 1 hts (gdU2 (up wdt2_212) (up wdt4_204) (List.mem_append_left _ (List.mem_of_getElem? (l := sbSel) (i := 0) rfl)) (up wdt2_214) (up wdt1_6) gzJ1_ensureCapacityInternal) rfl rfl rfl rfl (by decide +kernel) ⟨Nat.le_of_ble_eq_true rfl, Nat.le_of_ble_eq_true rfl⟩) ⟨PrE0_blind, va_recv hK hPc (ci := 6) (q0 := 0) rfl rfl, fun U hU hW => ⟨rfl, Pr_at hK hN hPc hDc hU hW, EN_at hE hS hFc hU hW⟩⟩ rfl rfl hl.1 rfl (lv_room (Nat.le_of_ble_eq_true rfl)) dJ1_append_LStringLAbstractStringBuilder_21 ⟨(by show 0 + x5 ≤ mc_r; omega), (by show 0 + x6 ≤ ms_r; omega)⟩) hP hD hS hA [0, 1] [] [0, 1] rfl rfl (by decide) (by decide) (by decide) (fun _ => rfl) (fun q8 H locs hP hD hS => ?_)
  have hP : va_P D vwCl (wS sa cI cZ cB cC sco sml sct q8 x3 x4) H := hP
  have hD : va_D A (wS sa cI cZ cB cC sco sml sct q8 x3 x4) := hD
  refine lv_aload_n hx hb dJ1_append_LStringLAbstractStringBuilder_24 rfl (lv_at hl 1 rfl) ?_
  refine lv_aload_n hx hb dJ1_append_LStringLAbstractStringBuilder_25 rfl (lv_at hl 1 rfl) ?_
  refine va_get (D := D) (ci := 6) (v := .int sct) (C := RK6) (T := TK6) (N := 4) hx hb hts inK6b hown hK hP 0 rfl rfl 3 (by decide) (hts _ (up wdt1_132)) (fun _ h9 => h9) rfl dJ1_append_LStringLAbstractStringBuilder_26 ?_
  refine lv_aload_n hx hb dJ1_append_LStringLAbstractStringBuilder_29 rfl (lv_at hl 2 rfl) ?_
  obtain ⟨x9, ec10, hm⟩ := bd1_s hm
  have hPc := hP.sub (ws' := (wS sa cI cZ cB cC sco sml sct q8 x3 x4)) [0, 1] rfl
  have hDc := hD.sub (ws' := (wS sa cI cZ cB cC sco sml sct q8 x3 x4)) [0, 1] (by decide) rfl
  have hFc := va_free (wc := (wS sa cI cZ cB cC sco sml sct q8 x3 x4)) hD hS hA [0, 1] rfl
  refine k_callv (wr := []) (w1 := (wS sa cI cZ cB cC sco sml sct q8 x3 x9)) (ws' := (wS sa cI cZ cB cC sco sml sct q8 x3 x9)) (va_runU (As := [.int sct, .ref xa]) (rest := []) ⟨hx, hb, hml, hown, hts⟩ (kJ1_putStringAt l D cI cZ cB cC H.size sa sco sml sct q8 x3 x4 xa xv xn xf sct x9 ec10) (va_cwU (C := RK6) (owner := RJ1) 2 hts (gdU2 (up wdt3_75) (up wdt4_209) (List.mem_append_left _ (List.mem_of_getElem? (l := sbSel) (i := 3) rfl)) (up wdt3_77) (up wdt1_6) gzJ1_putStringAt) rfl rfl rfl rfl (by decide +kernel) ⟨Nat.le_of_ble_eq_true rfl, Nat.le_of_ble_eq_true rfl⟩) ⟨PrE1_blind, va_recv hK hPc (ci := 6) (q0 := 0) rfl rfl, fun U hU hW => ⟨rfl, Pr_at hK hN hPc hDc hU hW, EN_at hE hS hFc hU hW, StrK_at hX hS hFc hU hW⟩⟩ rfl rfl hl.1 rfl (lv_room (Nat.le_of_ble_eq_true rfl)) dJ1_append_LStringLAbstractStringBuilder_30 ⟨(by show 0 + x5 + 0 ≤ mc_r; omega), (by show 0 + x6 + 0 ≤ ms_r; omega)⟩) hP hD hS hA [0, 1] [] [0, 1] rfl rfl (by decide) (by decide) (by decide) rfl (fun H locs hP hD hS => ?_)
  refine lv_aload_n hx hb dJ1_append_LStringLAbstractStringBuilder_33 rfl (lv_at hl 1 rfl) ?_
  refine lv_dup hx hb dJ1_append_LStringLAbstractStringBuilder_34 rfl ?_
  refine va_get (D := D) (ci := 6) (v := .int sct) (C := RK6) (T := TK6) (N := 4) hx hb hts inK6b hown hK hP 0 rfl rfl 3 (by decide) (hts _ (up wdt1_132)) (fun _ h9 => h9) rfl dJ1_append_LStringLAbstractStringBuilder_35 ?_
  refine lv_iload_n hx hb dJ1_append_LStringLAbstractStringBuilder_38 rfl (lv_at hl 0 rfl) ?_
  refine lv_iadd hx hb dJ1_append_LStringLAbstractStringBuilder_39 ?_
  obtain ⟨x11, ex11, hm⟩ := bd1_s hm
  refine topi (Option.some.inj ex11) ?_
  refine va_put (D := D) (ci := 6) (v := .int x11) (ty := .int) (C := RK6) (T := TK6) (N := 4) hx hb hts inK6b tyK6 tyK6_ok nmK6 hown hK hP hD hS 0 rfl rfl 3 (by decide) (hts _ (up wdt1_132)) (fun _ h9 => h9) rfl (by decide +kernel) rfl rfl (Nat.le_of_ble_eq_true rfl) dJ1_append_LStringLAbstractStringBuilder_40 (fun H locs hP hD hS => ?_)
  have hP : va_P D vwCl (wS sa cI cZ cB cC sco sml x11 q8 x3 x9) H := hP
  have hD : va_D A (wS sa cI cZ cB cC sco sml x11 q8 x3 x9) := hD
  refine lv_aload_n hx hb dJ1_append_LStringLAbstractStringBuilder_43 rfl (lv_at hl 1 rfl) ?_
  replace hm := Option.some.inj hm
  simp only [Prod.mk.injEq] at hm
  obtain ⟨rfl, rfl, rfl, rfl, rfl⟩ := hm
  refine W.widen (k := mc_r) (n := ms_r) (by omega) (by omega) ?_
  exact k_retrd hx hb hr hlocks (u := q8) hP hD hS dJ1_append_LStringLAbstractStringBuilder_44
def mK6_append_LStringLStringBuilder (sco : Int32) (sct : Int32) (sn : Nat) (sb : Nat → Int32) (xn : Nat) (xf : Nat → Int32) : Option (Int32 × Nat × (Nat → Int32) × Nat × Nat) :=
  bd5 (mJ1_append_LStringLAbstractStringBuilder sco sct sn sb xn xf) fun x1 x2 x3 x4 x5 => wa3 x4 x5 <| some (x1, x2, x3, 0, 0)
abbrev rmK6_append_LStringLStringBuilder (mc ms : Nat) : Room := { frames := 6, cells := mc, slots := ms, locals := 244 }
set_option maxHeartbeats 4000000 in
set_option maxRecDepth 100000 in
theorem kK6_append_LStringLStringBuilder (l : Launch) (D : va_G) (cI cZ cB cC : ClassId) (sz : Nat) (sa : Nat) (sco : Int32) (sml : Int32) (sct : Int32) (s_ad : Nat) (sn : Nat) (sb : Nat → Int32) (xa xv xn : Nat) (xf : Nat → Int32) (sct_r : Int32) (sn_r : Nat) (sb_r : Nat → Int32) (mc_r : Nat) (ms_r : Nat) (hm : mK6_append_LStringLStringBuilder sco sct sn sb xn xf = some (sct_r, sn_r, sb_r, mc_r, ms_r)) : Met l yK6_append_LStringLStringBuilder wzK6_append_LStringLStringBuilder (rmK6_append_LStringLStringBuilder mc_r ms_r) (va_Pc [.ref sa, .ref xa] (PrE1 D (tyL cI cZ cB cC) sz (wS sa cI cZ cB cC sco sml sct s_ad sn sb) xa xv xn xf)) (QRd D (va_A (wS sa cI cZ cB cC sco sml sct s_ad sn sb) sz) sa (fun u => (wS sa cI cZ cB cC sco sml sct_r u sn_r sb_r))) mc_r ms_r (va_A (wS sa cI cZ cB cC sco sml sct s_ad sn sb) sz) := by
  refine Met.ofW (cc := cK6_append_LStringLStringBuilder) (maxL := 2) (ret := (some (.object "java/lang/StringBuilder"))) (by decide) rfl ?_
  intro p e s m args below meth c s₁ B hml hv
  obtain ⟨rfl, ⟨hsz, hP, hK, hD0, hN⟩, hE, hX⟩ := hv
  have hx := B.exec
  have hb := B.bytes
  have hr := B.returns
  have hts := htsB (atoms_spec (ws := wzK6_append_LStringLStringBuilder) B.pre)
  have hown : s.vm.findClass RK6 = some m.cls := findClass_of_methodNamed B.named
  have hlocks := B.notSynchronized
  subst hsz
  have hD := hD0.self (sz := s.heap.size)
  generalize hAe : va_A (wS sa cI cZ cB cC sco sml sct s_ad sn sb) s.heap.size = A at hD hE hX ⊢
  have hA : ∀ q : Nat, s.heap.size ≤ q → A q := fun q h => by rw [← hAe]; exact Or.inr h
  refine kstart (A := A) hP (fun H hP hS => ?_)
  have hl := lv_entry ([.ref sa, .ref xa]) (n := 2) (Nat.le_of_ble_eq_true rfl)
  rw [lg_entry_eq]
  generalize (lg_sl ([.ref sa, .ref xa]) ++ List.replicate (2 - (lg_sl ([.ref sa, .ref xa])).length) Slot.unset).toArray = ls at hl ⊢
  have hl : lv_has ls 2 [(0, .ref sa), (1, .ref xa)] := hl
  unfold mK6_append_LStringLStringBuilder at hm
  obtain ⟨hE0z, ⟨dg1, hE1z, hE1t⟩, ⟨dg2, hE2z, hE2t⟩, hE4, ⟨ka0, kv0, hkr0, hk0⟩, ⟨ka1, kv1, hkr1, hk1⟩, ⟨ka2, kv2, hkr2, hk2⟩⟩ := id hE
  refine lv_aload_n hx hb dK6_append_LStringLStringBuilder_0 rfl (lv_at hl 0 rfl) ?_
  refine lv_aload_n hx hb dK6_append_LStringLStringBuilder_1 rfl (lv_at hl 1 rfl) ?_
  obtain ⟨x1, x2, x3, x4, x5, ec6, hm⟩ := bd5_s hm
  obtain ⟨mcec6, msec6, hm, hcec6, hsec6⟩ := wa3_s hm
  have hPc := hP.sub (ws' := (wS sa cI cZ cB cC sco sml sct s_ad sn sb)) [0, 1] rfl
  have hDc := hD.sub (ws' := (wS sa cI cZ cB cC sco sml sct s_ad sn sb)) [0, 1] (by decide) rfl
  have hFc := va_free (wc := (wS sa cI cZ cB cC sco sml sct s_ad sn sb)) hD hS hA [0, 1] rfl
  refine k_callrdc (wr := []) (w1 := fun u => (wS sa cI cZ cB cC sco sml x1 u x2 x3)) (ws' := fun u => (wS sa cI cZ cB cC sco sml x1 u x2 x3)) (va_runSU (C := RK6) (hK.1 6 _ rfl).2 (As := [.ref xa]) (rest := []) ⟨hx, hb, hml, hown, hts⟩ (kJ1_append_LStringLAbstractStringBuilder l D cI cZ cB cC H.size sa sco sml sct s_ad sn sb xa xv xn xf x1 x2 x3 x4 x5 ec6) (va_cwSU 1 hts (gdSU2 (up wdt3_33) (up wdt4_207) (up wdt1_141) (up wdt3_34) (up wdt1_6) gzJ1_append_LStringLAbstractStringBuilder) rfl rfl rfl (by decide +kernel) ⟨Nat.le_of_ble_eq_true rfl, Nat.le_of_ble_eq_true rfl⟩) ⟨PrE1_blind, va_recv hK hPc (ci := 6) (q0 := 0) rfl rfl, fun U hU hW => ⟨rfl, Pr_at hK hN hPc hDc hU hW, EN_at hE hS hFc hU hW, StrK_at hX hS hFc hU hW⟩⟩ rfl rfl hl.1 rfl (lv_room (Nat.le_of_ble_eq_true rfl)) dK6_append_LStringLStringBuilder_2 ⟨(by show 0 + x4 ≤ mc_r; omega), (by show 0 + x5 ≤ ms_r; omega)⟩) hP hD hS hA [0, 1] [] [0, 1] rfl rfl (by decide) (by decide) (by decide) (fun _ => rfl) (fun q7 H locs hP hD hS => ?_)
  have hP : va_P D vwCl (wS sa cI cZ cB cC sco sml x1 q7 x2 x3) H := hP
  have hD : va_D A (wS sa cI cZ cB cC sco sml x1 q7 x2 x3) := hD
  refine lv_pop hx hb dK6_append_LStringLStringBuilder_5 rfl ?_
  refine lv_aload_n hx hb dK6_append_LStringLStringBuilder_6 rfl (lv_at hl 0 rfl) ?_
  replace hm := Option.some.inj hm
  simp only [Prod.mk.injEq] at hm
  obtain ⟨rfl, rfl, rfl, rfl, rfl⟩ := hm
  refine W.widen (k := mc_r) (n := ms_r) (by omega) (by omega) ?_
  exact k_retrd hx hb hr hlocks (u := q7) hP hD hS dK6_append_LStringLStringBuilder_7
def mJ1_append_ILAbstractStringBuilder (sco : Int32) (sct : Int32) (sn : Nat) (sb : Nat → Int32) (v1 : Int32) : Option (Int32 × Nat × (Nat → Int32) × Nat × Nat) :=
  bd1 (mJ2_stringSize v1) fun x1 => bd1 (some (sct + x1)) fun x3 => bd4 (mJ1_ens sco sn sb x3) fun x4 x5 x6 x7 => wa3 x6 x7 <| bd1 (mJ1_isLatin1 sco) fun x10 => if x10 = 0 then
  (none)
  else
  (bd2 (mJ2_getChars x4 x5 v1 x3) fun x12 x13 => some (x3, x4, x13, 0, 0))
abbrev rmJ1_append_ILAbstractStringBuilder (mc ms : Nat) : Room := { frames := 5, cells := mc, slots := ms, locals := 222 }
set_option maxHeartbeats 4000000 in
set_option maxRecDepth 100000 in
theorem kJ1_append_ILAbstractStringBuilder (l : Launch) (D : va_G) (cI cZ cB cC : ClassId) (sz : Nat) (sa : Nat) (sco : Int32) (sml : Int32) (sct : Int32) (s_ad : Nat) (sn : Nat) (sb : Nat → Int32) (v1 : Int32) (sct_r : Int32) (sn_r : Nat) (sb_r : Nat → Int32) (mc_r : Nat) (ms_r : Nat) (hm : mJ1_append_ILAbstractStringBuilder sco sct sn sb v1 = some (sct_r, sn_r, sb_r, mc_r, ms_r)) : Met l yJ1_append_ILAbstractStringBuilder wzJ1_append_ILAbstractStringBuilder (rmJ1_append_ILAbstractStringBuilder mc_r ms_r) (va_Pc [.ref sa, .int v1] (PrE0 D (tyL cI cZ cB cC) sz (wS sa cI cZ cB cC sco sml sct s_ad sn sb))) (QRd D (va_A (wS sa cI cZ cB cC sco sml sct s_ad sn sb) sz) sa (fun u => (wS sa cI cZ cB cC sco sml sct_r u sn_r sb_r))) mc_r ms_r (va_A (wS sa cI cZ cB cC sco sml sct s_ad sn sb) sz) := by
  refine Met.ofW (cc := cJ1_append_ILAbstractStringBuilder) (maxL := 4) (ret := (some (.object "java/lang/AbstractStringBuilder"))) (by decide) rfl ?_
  intro p e s m args below meth c s₁ B hml hv
  obtain ⟨rfl, ⟨hsz, hP, hK, hD0, hN⟩, hE⟩ := hv
  have hx := B.exec
  have hb := B.bytes
  have hr := B.returns
  have hts := htsB (atoms_spec (ws := wzJ1_append_ILAbstractStringBuilder) B.pre)
  have hown : s.vm.findClass RJ1 = some m.cls := findClass_of_methodNamed B.named
  have hlocks := B.notSynchronized
  subst hsz
  have hD := hD0.self (sz := s.heap.size)
  generalize hAe : va_A (wS sa cI cZ cB cC sco sml sct s_ad sn sb) s.heap.size = A at hD hE ⊢
  have hA : ∀ q : Nat, s.heap.size ≤ q → A q := fun q h => by rw [← hAe]; exact Or.inr h
  refine kstart (A := A) hP (fun H hP hS => ?_)
  have hl := lv_entry ([.ref sa, .int v1]) (n := 4) (Nat.le_of_ble_eq_true rfl)
  rw [lg_entry_eq]
  generalize (lg_sl ([.ref sa, .int v1]) ++ List.replicate (4 - (lg_sl ([.ref sa, .int v1])).length) Slot.unset).toArray = ls at hl ⊢
  have hl : lv_has ls 4 [(0, .ref sa), (1, .int v1)] := hl
  unfold mJ1_append_ILAbstractStringBuilder at hm
  obtain ⟨hE0z, ⟨dg1, hE1z, hE1t⟩, ⟨dg2, hE2z, hE2t⟩, hE4, ⟨ka0, kv0, hkr0, hk0⟩, ⟨ka1, kv1, hkr1, hk1⟩, ⟨ka2, kv2, hkr2, hk2⟩⟩ := id hE
  refine lv_aload_n hx hb dJ1_append_ILAbstractStringBuilder_0 rfl (lv_at hl 0 rfl) ?_
  refine va_get (D := D) (ci := 6) (v := .int sct) (C := RK6) (T := TK6) (N := 4) hx hb hts inK6b hown hK hP 0 rfl rfl 3 (by decide) (hts _ (up wdt1_132)) (fun _ h9 => h9) rfl dJ1_append_ILAbstractStringBuilder_1 ?_
  refine lv_istore_n (lv' := [(2, .int sct), (0, .ref sa), (1, .int v1)]) hx hb dJ1_append_ILAbstractStringBuilder_4 rfl hl (by decide) rfl (fun ls hl => ?_)
  refine lv_iload_n hx hb dJ1_append_ILAbstractStringBuilder_5 rfl (lv_at hl 0 rfl) ?_
  refine lv_iload_n hx hb dJ1_append_ILAbstractStringBuilder_6 rfl (lv_at hl 2 rfl) ?_
  obtain ⟨x1, ec2, hm⟩ := bd1_s hm
  have hPc : va_P D vwCl [] H := va_P0
  have hDc : va_D A [] := va_D0
  refine k_calli0 (va_runS (As := [.int v1]) (rest := [.int sct]) ⟨hx, hb, hml, hown, hts⟩ (kJ2_stringSize l D cI cZ cB cC H.size v1 x1 ec2) (va_cwS 1 hts (gdS2 (up wdt3_123) (up wdt3_124) (up wdt1_12) (gup gkJ2_stringSize)) rfl rfl rfl (by decide +kernel) ⟨Nat.le_of_ble_eq_true rfl, Nat.le_of_ble_eq_true rfl⟩) ⟨Pr_blind, fun U hU hW => ⟨rfl, Pr_at hK hN hPc hDc hU hW⟩⟩ rfl rfl hl.1 rfl (lv_room (Nat.le_of_ble_eq_true rfl)) dJ1_append_ILAbstractStringBuilder_7 ⟨(by show 0 + 0 ≤ mc_r; omega), (by show 0 + 0 ≤ ms_r; omega)⟩) hP hD hS hA (fun H locs hP hD hS => ?_)
  refine lv_iadd hx hb dJ1_append_ILAbstractStringBuilder_10 ?_
  obtain ⟨x3, ex3, hm⟩ := bd1_s hm
  refine topi (Option.some.inj ex3) ?_
  refine lv_istore_n (lv' := [(3, .int x3), (2, .int sct), (0, .ref sa), (1, .int v1)]) hx hb dJ1_append_ILAbstractStringBuilder_11 rfl hl (by decide) rfl (fun ls hl => ?_)
  refine lv_aload_n hx hb dJ1_append_ILAbstractStringBuilder_12 rfl (lv_at hl 2 rfl) ?_
  refine lv_iload_n hx hb dJ1_append_ILAbstractStringBuilder_13 rfl (lv_at hl 0 rfl) ?_
  obtain ⟨x4, x5, x6, x7, ec8, hm⟩ := bd4_s hm
  obtain ⟨mcec8, msec8, hm, hcec8, hsec8⟩ := wa3_s hm
  have hPc := hP.sub (ws' := (wS sa cI cZ cB cC sco sml sct s_ad sn sb)) [0, 1] rfl
  have hDc := hD.sub (ws' := (wS sa cI cZ cB cC sco sml sct s_ad sn sb)) [0, 1] (by decide) rfl
  have hFc := va_free (wc := (wS sa cI cZ cB cC sco sml sct s_ad sn sb)) hD hS hA [0, 1] rfl
  refine k_callvdc (wr := []) (w1 := fun u => (wS sa cI cZ cB cC sco sml sct u x4 x5)) (ws' := fun u => (wS sa cI cZ cB cC sco sml sct u x4 x5)) (va_runU (As := [.int x3]) (rest := []) ⟨hx, hb, hml, hown, hts⟩ (kJ1_ens l D cI cZ cB cC H.size sa sco sml sct s_ad sn sb x3 x4 x5 x6 x7 ec8) (va_cwU (C := RK6) (owner := RJ1) 1 hts (gdU2 (up wdt2_212) (up wdt4_204) (List.mem_append_left _ (List.mem_of_getElem? (l := sbSel) (i := 0) rfl)) (up wdt2_214) (up wdt1_6) gzJ1_ensureCapacityInternal) rfl rfl rfl rfl (by decide +kernel) ⟨Nat.le_of_ble_eq_true rfl, Nat.le_of_ble_eq_true rfl⟩) ⟨PrE0_blind, va_recv hK hPc (ci := 6) (q0 := 0) rfl rfl, fun U hU hW => ⟨rfl, Pr_at hK hN hPc hDc hU hW, EN_at hE hS hFc hU hW⟩⟩ rfl rfl hl.1 rfl (lv_room (Nat.le_of_ble_eq_true rfl)) dJ1_append_ILAbstractStringBuilder_14 ⟨(by show 0 + x6 ≤ mc_r; omega), (by show 0 + x7 ≤ ms_r; omega)⟩) hP hD hS hA [0, 1] [] [0, 1] rfl rfl (by decide) (by decide) (by decide) (fun _ => rfl) (fun q9 H locs hP hD hS => ?_)
  have hP : va_P D vwCl (wS sa cI cZ cB cC sco sml sct q9 x4 x5) H := hP
  have hD : va_D A (wS sa cI cZ cB cC sco sml sct q9 x4 x5) := hD
  refine lv_aload_n hx hb dJ1_append_ILAbstractStringBuilder_17 rfl (lv_at hl 2 rfl) ?_
  obtain ⟨x10, ec11, hm⟩ := bd1_s hm
  have hPc := hP.sub (ws' := (wS sa cI cZ cB cC sco sml sct q9 x4 x5)) [0, 1] rfl
  have hDc := hD.sub (ws' := (wS sa cI cZ cB cC sco sml sct q9 x4 x5)) [0, 1] (by decide) rfl
  have hFc := va_free (wc := (wS sa cI cZ cB cC sco sml sct q9 x4 x5)) hD hS hA [0, 1] rfl
  refine k_calli (wr := []) (w1 := (wS sa cI cZ cB cC sco sml sct q9 x4 x5)) (ws' := (wS sa cI cZ cB cC sco sml sct q9 x4 x5)) (va_runU (As := []) (rest := []) ⟨hx, hb, hml, hown, hts⟩ (kJ1_isLatin1 l D cI cZ cB cC H.size sa sco sml sct q9 x4 x5 x10 ec11) (va_cwU (C := RK6) (owner := RJ1) 0 hts (gdU2 (up wdt3_3) (up wdt3_5) (up wdt3_6) (up wdt3_4) (up wdt1_6) gzJ1_isLatin1) rfl rfl rfl rfl (by decide +kernel) ⟨Nat.le_of_ble_eq_true rfl, Nat.le_of_ble_eq_true rfl⟩) ⟨PrE0_blind, va_recv hK hPc (ci := 6) (q0 := 0) rfl rfl, fun U hU hW => ⟨rfl, Pr_at hK hN hPc hDc hU hW, EN_at hE hS hFc hU hW⟩⟩ rfl rfl hl.1 rfl (lv_room (Nat.le_of_ble_eq_true rfl)) dJ1_append_ILAbstractStringBuilder_18 ⟨(by show 0 + x6 + 0 ≤ mc_r; omega), (by show 0 + x7 + 0 ≤ ms_r; omega)⟩) hP hD hS hA [0, 1] [] [0, 1] rfl rfl (by decide) (by decide) (by decide) rfl (fun H locs hP hD hS => ?_)
  refine lv_if_eq (tgt := 37) hx hb dJ1_append_ILAbstractStringBuilder_21 (by decide) (fun hc => ?_) (fun hc => ?_)
  · replace hm := ift hm hc
    refine lv_iload_n hx hb dJ1_append_ILAbstractStringBuilder_37 rfl (lv_at hl 3 rfl) ?_
    refine lv_iload_n hx hb dJ1_append_ILAbstractStringBuilder_38 rfl (lv_at hl 1 rfl) ?_
    refine lv_iload_n hx hb dJ1_append_ILAbstractStringBuilder_39 rfl (lv_at hl 0 rfl) ?_
    refine lv_aload_n hx hb dJ1_append_ILAbstractStringBuilder_40 rfl (lv_at hl 2 rfl) ?_
    refine va_get (D := D) (ci := 6) (v := .ref q9) (C := RK6) (T := TK6) (N := 4) hx hb hts inK6b hown hK hP 0 rfl rfl 0 (by decide) (hts _ (up wdt1_129)) (fun _ h9 => h9) rfl dJ1_append_ILAbstractStringBuilder_41 ?_
    exact nomatch hm
  · replace hm := iff_ hm hc
    refine lv_iload_n hx hb dJ1_append_ILAbstractStringBuilder_24 rfl (lv_at hl 3 rfl) ?_
    refine lv_iload_n hx hb dJ1_append_ILAbstractStringBuilder_25 rfl (lv_at hl 0 rfl) ?_
    refine lv_aload_n hx hb dJ1_append_ILAbstractStringBuilder_26 rfl (lv_at hl 2 rfl) ?_
    refine va_get (D := D) (ci := 6) (v := .ref q9) (C := RK6) (T := TK6) (N := 4) hx hb hts inK6b hown hK hP 0 rfl rfl 0 (by decide) (hts _ (up wdt1_129)) (fun _ h9 => h9) rfl dJ1_append_ILAbstractStringBuilder_27 ?_
    obtain ⟨x12, x13, ec14, hm⟩ := bd2_s hm
    have hPc := hP.sub (ws' := (wB q9 cI cZ cB cC x4 x5)) [1] rfl
    have hDc := hD.sub (ws' := (wB q9 cI cZ cB cC x4 x5)) [1] (by decide) rfl
    have hFc := va_free (wc := (wB q9 cI cZ cB cC x4 x5)) hD hS hA [1] rfl
    refine k_calli (wr := [(sa, .inr (6, [.ref q9, .int sco, .int sml, .int sct]))]) (w1 := (wB q9 cI cZ cB cC x4 x13)) (ws' := (wS sa cI cZ cB cC sco sml sct q9 x4 x13)) (va_runS (As := [.int v1, .int x3, .ref q9]) (rest := []) ⟨hx, hb, hml, hown, hts⟩ (kJ2_getChars l D cI cZ cB cC H.size q9 x4 x5 v1 x3 x12 x13 ec14) (va_cwS 3 hts (gdS2 (up wdt3_126) (up wdt3_127) (up wdt1_12) gzJ2_getChars) rfl rfl rfl (by decide +kernel) ⟨Nat.le_of_ble_eq_true rfl, Nat.le_of_ble_eq_true rfl⟩) ⟨PrE0_blind, fun U hU hW => ⟨rfl, Pr_at hK hN hPc hDc hU hW, EN_at hE hS hFc hU hW⟩⟩ rfl rfl hl.1 rfl (lv_room (Nat.le_of_ble_eq_true rfl)) dJ1_append_ILAbstractStringBuilder_30 ⟨(by show 0 + x6 + 0 ≤ mc_r; omega), (by show 0 + x7 + 0 ≤ ms_r; omega)⟩) hP hD hS hA [1] [0] [0, 1] rfl rfl (by decide) (by decide) (by decide) rfl (fun H locs hP hD hS => ?_)
    refine lv_pop hx hb dJ1_append_ILAbstractStringBuilder_33 rfl ?_
    refine lv_goto (tgt := 48) hx hb dJ1_append_ILAbstractStringBuilder_34 (by decide) ?_
    refine lv_aload_n hx hb dJ1_append_ILAbstractStringBuilder_48 rfl (lv_at hl 2 rfl) ?_
    refine lv_iload_n hx hb dJ1_append_ILAbstractStringBuilder_49 rfl (lv_at hl 0 rfl) ?_
    refine va_put (D := D) (ci := 6) (v := .int x3) (ty := .int) (C := RK6) (T := TK6) (N := 4) hx hb hts inK6b tyK6 tyK6_ok nmK6 hown hK hP hD hS 0 rfl rfl 3 (by decide) (hts _ (up wdt1_132)) (fun _ h9 => h9) rfl (by decide +kernel) rfl rfl (Nat.le_of_ble_eq_true rfl) dJ1_append_ILAbstractStringBuilder_50 (fun H locs hP hD hS => ?_)
    have hP : va_P D vwCl (wS sa cI cZ cB cC sco sml x3 q9 x4 x13) H := hP
    have hD : va_D A (wS sa cI cZ cB cC sco sml x3 q9 x4 x13) := hD
    refine lv_aload_n hx hb dJ1_append_ILAbstractStringBuilder_53 rfl (lv_at hl 2 rfl) ?_
    replace hm := Option.some.inj hm
    simp only [Prod.mk.injEq] at hm
    obtain ⟨rfl, rfl, rfl, rfl, rfl⟩ := hm
    refine W.widen (k := mc_r) (n := ms_r) (by omega) (by omega) ?_
    exact k_retrd hx hb hr hlocks (u := q9) hP hD hS dJ1_append_ILAbstractStringBuilder_54
def mK6_append_ILStringBuilder (sco : Int32) (sct : Int32) (sn : Nat) (sb : Nat → Int32) (v1 : Int32) : Option (Int32 × Nat × (Nat → Int32) × Nat × Nat) :=
  bd5 (mJ1_append_ILAbstractStringBuilder sco sct sn sb v1) fun x1 x2 x3 x4 x5 => wa3 x4 x5 <| some (x1, x2, x3, 0, 0)
abbrev rmK6_append_ILStringBuilder (mc ms : Nat) : Room := { frames := 6, cells := mc, slots := ms, locals := 245 }
set_option maxHeartbeats 4000000 in
set_option maxRecDepth 100000 in
theorem kK6_append_ILStringBuilder (l : Launch) (D : va_G) (cI cZ cB cC : ClassId) (sz : Nat) (sa : Nat) (sco : Int32) (sml : Int32) (sct : Int32) (s_ad : Nat) (sn : Nat) (sb : Nat → Int32) (v1 : Int32) (sct_r : Int32) (sn_r : Nat) (sb_r : Nat → Int32) (mc_r : Nat) (ms_r : Nat) (hm : mK6_append_ILStringBuilder sco sct sn sb v1 = some (sct_r, sn_r, sb_r, mc_r, ms_r)) : Met l yK6_append_ILStringBuilder wzK6_append_ILStringBuilder (rmK6_append_ILStringBuilder mc_r ms_r) (va_Pc [.ref sa, .int v1] (PrE0 D (tyL cI cZ cB cC) sz (wS sa cI cZ cB cC sco sml sct s_ad sn sb))) (QRd D (va_A (wS sa cI cZ cB cC sco sml sct s_ad sn sb) sz) sa (fun u => (wS sa cI cZ cB cC sco sml sct_r u sn_r sb_r))) mc_r ms_r (va_A (wS sa cI cZ cB cC sco sml sct s_ad sn sb) sz) := by
  refine Met.ofW (cc := cK6_append_ILStringBuilder) (maxL := 2) (ret := (some (.object "java/lang/StringBuilder"))) (by decide) rfl ?_
  intro p e s m args below meth c s₁ B hml hv
  obtain ⟨rfl, ⟨hsz, hP, hK, hD0, hN⟩, hE⟩ := hv
  have hx := B.exec
  have hb := B.bytes
  have hr := B.returns
  have hts := htsB (atoms_spec (ws := wzK6_append_ILStringBuilder) B.pre)
  have hown : s.vm.findClass RK6 = some m.cls := findClass_of_methodNamed B.named
  have hlocks := B.notSynchronized
  subst hsz
  have hD := hD0.self (sz := s.heap.size)
  generalize hAe : va_A (wS sa cI cZ cB cC sco sml sct s_ad sn sb) s.heap.size = A at hD hE ⊢
  have hA : ∀ q : Nat, s.heap.size ≤ q → A q := fun q h => by rw [← hAe]; exact Or.inr h
  refine kstart (A := A) hP (fun H hP hS => ?_)
  have hl := lv_entry ([.ref sa, .int v1]) (n := 2) (Nat.le_of_ble_eq_true rfl)
  rw [lg_entry_eq]
  generalize (lg_sl ([.ref sa, .int v1]) ++ List.replicate (2 - (lg_sl ([.ref sa, .int v1])).length) Slot.unset).toArray = ls at hl ⊢
  have hl : lv_has ls 2 [(0, .ref sa), (1, .int v1)] := hl
  unfold mK6_append_ILStringBuilder at hm
  obtain ⟨hE0z, ⟨dg1, hE1z, hE1t⟩, ⟨dg2, hE2z, hE2t⟩, hE4, ⟨ka0, kv0, hkr0, hk0⟩, ⟨ka1, kv1, hkr1, hk1⟩, ⟨ka2, kv2, hkr2, hk2⟩⟩ := id hE
  refine lv_aload_n hx hb dK6_append_ILStringBuilder_0 rfl (lv_at hl 0 rfl) ?_
  refine lv_iload_n hx hb dK6_append_ILStringBuilder_1 rfl (lv_at hl 1 rfl) ?_
  obtain ⟨x1, x2, x3, x4, x5, ec6, hm⟩ := bd5_s hm
  obtain ⟨mcec6, msec6, hm, hcec6, hsec6⟩ := wa3_s hm
  have hPc := hP.sub (ws' := (wS sa cI cZ cB cC sco sml sct s_ad sn sb)) [0, 1] rfl
  have hDc := hD.sub (ws' := (wS sa cI cZ cB cC sco sml sct s_ad sn sb)) [0, 1] (by decide) rfl
  have hFc := va_free (wc := (wS sa cI cZ cB cC sco sml sct s_ad sn sb)) hD hS hA [0, 1] rfl
  refine k_callrdc (wr := []) (w1 := fun u => (wS sa cI cZ cB cC sco sml x1 u x2 x3)) (ws' := fun u => (wS sa cI cZ cB cC sco sml x1 u x2 x3)) (va_runSU (C := RK6) (hK.1 6 _ rfl).2 (As := [.int v1]) (rest := []) ⟨hx, hb, hml, hown, hts⟩ (kJ1_append_ILAbstractStringBuilder l D cI cZ cB cC H.size sa sco sml sct s_ad sn sb v1 x1 x2 x3 x4 x5 ec6) (va_cwSU 1 hts (gdSU2 (up wdt3_120) (up wdt4_212) (up wdt1_141) (up wdt3_121) (up wdt1_6) gzJ1_append_ILAbstractStringBuilder) rfl rfl rfl (by decide +kernel) ⟨Nat.le_of_ble_eq_true rfl, Nat.le_of_ble_eq_true rfl⟩) ⟨PrE0_blind, va_recv hK hPc (ci := 6) (q0 := 0) rfl rfl, fun U hU hW => ⟨rfl, Pr_at hK hN hPc hDc hU hW, EN_at hE hS hFc hU hW⟩⟩ rfl rfl hl.1 rfl (lv_room (Nat.le_of_ble_eq_true rfl)) dK6_append_ILStringBuilder_2 ⟨(by show 0 + x4 ≤ mc_r; omega), (by show 0 + x5 ≤ ms_r; omega)⟩) hP hD hS hA [0, 1] [] [0, 1] rfl rfl (by decide) (by decide) (by decide) (fun _ => rfl) (fun q7 H locs hP hD hS => ?_)
  have hP : va_P D vwCl (wS sa cI cZ cB cC sco sml x1 q7 x2 x3) H := hP
  have hD : va_D A (wS sa cI cZ cB cC sco sml x1 q7 x2 x3) := hD
  refine lv_pop hx hb dK6_append_ILStringBuilder_5 rfl ?_
  refine lv_aload_n hx hb dK6_append_ILStringBuilder_6 rfl (lv_at hl 0 rfl) ?_
  replace hm := Option.some.inj hm
  simp only [Prod.mk.injEq] at hm
  obtain ⟨rfl, rfl, rfl, rfl, rfl⟩ := hm
  refine W.widen (k := mc_r) (n := ms_r) (by omega) (by omega) ?_
  exact k_retrd hx hb hr hlocks (u := q7) hP hD hS dK6_append_ILStringBuilder_7
def mJ1_append_CLAbstractStringBuilder (sco : Int32) (sct : Int32) (sn : Nat) (sb : Nat → Int32) (v1 : Int32) : Option (Int32 × Nat × (Nat → Int32) × Nat × Nat) :=
  bd4 (mJ1_ens sco sn sb (sct + 1)) fun x1 x2 x3 x4 => wa3 x3 x4 <| bd1 (mJ1_isLatin1 sco) fun x7 => if x7 = 0 then
  (bd1 (mJ1_isLatin1 sco) fun x9 => if x9 = 0 then
    (bd1 (some (sct + 1)) fun x11 => none)
    else
    (none))
  else
  (bd1 (mJ4_canEncode v1) fun x12 => if x12 = 0 then
    (bd1 (mJ1_isLatin1 sco) fun x14 => if x14 = 0 then
      (bd1 (some (sct + 1)) fun x16 => none)
      else
      (none))
    else
    (bd1 (some (sct + 1)) fun x17 => bd1 (wrt x2 x1 sct (vp_nar .byte (i2b v1))) fun x18 => some (x17, x1, x18, 0, 0)))
abbrev rmJ1_append_CLAbstractStringBuilder (mc ms : Nat) : Room := { frames := 5, cells := mc, slots := ms, locals := 222 }
set_option maxHeartbeats 4000000 in
set_option maxRecDepth 100000 in
theorem kJ1_append_CLAbstractStringBuilder (l : Launch) (D : va_G) (cI cZ cB cC : ClassId) (sz : Nat) (sa : Nat) (sco : Int32) (sml : Int32) (sct : Int32) (s_ad : Nat) (sn : Nat) (sb : Nat → Int32) (v1 : Int32) (sct_r : Int32) (sn_r : Nat) (sb_r : Nat → Int32) (mc_r : Nat) (ms_r : Nat) (hm : mJ1_append_CLAbstractStringBuilder sco sct sn sb v1 = some (sct_r, sn_r, sb_r, mc_r, ms_r)) : Met l yJ1_append_CLAbstractStringBuilder wzJ1_append_CLAbstractStringBuilder (rmJ1_append_CLAbstractStringBuilder mc_r ms_r) (va_Pc [.ref sa, .int v1] (PrE0 D (tyL cI cZ cB cC) sz (wS sa cI cZ cB cC sco sml sct s_ad sn sb))) (QRd D (va_A (wS sa cI cZ cB cC sco sml sct s_ad sn sb) sz) sa (fun u => (wS sa cI cZ cB cC sco sml sct_r u sn_r sb_r))) mc_r ms_r (va_A (wS sa cI cZ cB cC sco sml sct s_ad sn sb) sz) := by
  refine Met.ofW (cc := cJ1_append_CLAbstractStringBuilder) (maxL := 2) (ret := (some (.object "java/lang/AbstractStringBuilder"))) (by decide) rfl ?_
  intro p e s m args below meth c s₁ B hml hv
  obtain ⟨rfl, ⟨hsz, hP, hK, hD0, hN⟩, hE⟩ := hv
  have hx := B.exec
  have hb := B.bytes
  have hr := B.returns
  have hts := htsB (atoms_spec (ws := wzJ1_append_CLAbstractStringBuilder) B.pre)
  have hown : s.vm.findClass RJ1 = some m.cls := findClass_of_methodNamed B.named
  have hlocks := B.notSynchronized
  subst hsz
  have hD := hD0.self (sz := s.heap.size)
  generalize hAe : va_A (wS sa cI cZ cB cC sco sml sct s_ad sn sb) s.heap.size = A at hD hE ⊢
  have hA : ∀ q : Nat, s.heap.size ≤ q → A q := fun q h => by rw [← hAe]; exact Or.inr h
  refine kstart (A := A) hP (fun H hP hS => ?_)
  have hl := lv_entry ([.ref sa, .int v1]) (n := 2) (Nat.le_of_ble_eq_true rfl)
  rw [lg_entry_eq]
  generalize (lg_sl ([.ref sa, .int v1]) ++ List.replicate (2 - (lg_sl ([.ref sa, .int v1])).length) Slot.unset).toArray = ls at hl ⊢
  have hl : lv_has ls 2 [(0, .ref sa), (1, .int v1)] := hl
  unfold mJ1_append_CLAbstractStringBuilder at hm
  obtain ⟨hE0z, ⟨dg1, hE1z, hE1t⟩, ⟨dg2, hE2z, hE2t⟩, hE4, ⟨ka0, kv0, hkr0, hk0⟩, ⟨ka1, kv1, hkr1, hk1⟩, ⟨ka2, kv2, hkr2, hk2⟩⟩ := id hE
  refine lv_aload_n hx hb dJ1_append_CLAbstractStringBuilder_0 rfl (lv_at hl 0 rfl) ?_
  refine lv_aload_n hx hb dJ1_append_CLAbstractStringBuilder_1 rfl (lv_at hl 0 rfl) ?_
  refine va_get (D := D) (ci := 6) (v := .int sct) (C := RK6) (T := TK6) (N := 4) hx hb hts inK6b hown hK hP 0 rfl rfl 3 (by decide) (hts _ (up wdt1_132)) (fun _ h9 => h9) rfl dJ1_append_CLAbstractStringBuilder_2 ?_
  refine lv_iconst (v := 1) hx hb dJ1_append_CLAbstractStringBuilder_5 (by decide) ?_
  refine lv_iadd hx hb dJ1_append_CLAbstractStringBuilder_6 ?_
  obtain ⟨x1, x2, x3, x4, ec5, hm⟩ := bd4_s hm
  obtain ⟨mcec5, msec5, hm, hcec5, hsec5⟩ := wa3_s hm
  have hPc := hP.sub (ws' := (wS sa cI cZ cB cC sco sml sct s_ad sn sb)) [0, 1] rfl
  have hDc := hD.sub (ws' := (wS sa cI cZ cB cC sco sml sct s_ad sn sb)) [0, 1] (by decide) rfl
  have hFc := va_free (wc := (wS sa cI cZ cB cC sco sml sct s_ad sn sb)) hD hS hA [0, 1] rfl
  refine k_callvdc (wr := []) (w1 := fun u => (wS sa cI cZ cB cC sco sml sct u x1 x2)) (ws' := fun u => (wS sa cI cZ cB cC sco sml sct u x1 x2)) (va_runU (As := [.int (sct + 1)]) (rest := []) ⟨hx, hb, hml, hown, hts⟩ (kJ1_ens l D cI cZ cB cC H.size sa sco sml sct s_ad sn sb (sct + 1) x1 x2 x3 x4 ec5) (va_cwU (C := RK6) (owner := RJ1) 1 hts (gdU2 (up wdt2_212) (up wdt4_204) (List.mem_append_left _ (List.mem_of_getElem? (l := sbSel) (i := 0) rfl)) (up wdt2_214) (up wdt1_6) gzJ1_ensureCapacityInternal) rfl rfl rfl rfl (by decide +kernel) ⟨Nat.le_of_ble_eq_true rfl, Nat.le_of_ble_eq_true rfl⟩) ⟨PrE0_blind, va_recv hK hPc (ci := 6) (q0 := 0) rfl rfl, fun U hU hW => ⟨rfl, Pr_at hK hN hPc hDc hU hW, EN_at hE hS hFc hU hW⟩⟩ rfl rfl hl.1 rfl (lv_room (Nat.le_of_ble_eq_true rfl)) dJ1_append_CLAbstractStringBuilder_7 ⟨(by show 0 + x3 ≤ mc_r; omega), (by show 0 + x4 ≤ ms_r; omega)⟩) hP hD hS hA [0, 1] [] [0, 1] rfl rfl (by decide) (by decide) (by decide) (fun _ => rfl) (fun q6 H locs hP hD hS => ?_)
  have hP : va_P D vwCl (wS sa cI cZ cB cC sco sml sct q6 x1 x2) H := hP
  have hD : va_D A (wS sa cI cZ cB cC sco sml sct q6 x1 x2) := hD
  refine lv_aload_n hx hb dJ1_append_CLAbstractStringBuilder_10 rfl (lv_at hl 0 rfl) ?_
  obtain ⟨x7, ec8, hm⟩ := bd1_s hm
  have hPc := hP.sub (ws' := (wS sa cI cZ cB cC sco sml sct q6 x1 x2)) [0, 1] rfl
  have hDc := hD.sub (ws' := (wS sa cI cZ cB cC sco sml sct q6 x1 x2)) [0, 1] (by decide) rfl
  have hFc := va_free (wc := (wS sa cI cZ cB cC sco sml sct q6 x1 x2)) hD hS hA [0, 1] rfl
  refine k_calli (wr := []) (w1 := (wS sa cI cZ cB cC sco sml sct q6 x1 x2)) (ws' := (wS sa cI cZ cB cC sco sml sct q6 x1 x2)) (va_runU (As := []) (rest := []) ⟨hx, hb, hml, hown, hts⟩ (kJ1_isLatin1 l D cI cZ cB cC H.size sa sco sml sct q6 x1 x2 x7 ec8) (va_cwU (C := RK6) (owner := RJ1) 0 hts (gdU2 (up wdt3_3) (up wdt3_5) (up wdt3_6) (up wdt3_4) (up wdt1_6) gzJ1_isLatin1) rfl rfl rfl rfl (by decide +kernel) ⟨Nat.le_of_ble_eq_true rfl, Nat.le_of_ble_eq_true rfl⟩) ⟨PrE0_blind, va_recv hK hPc (ci := 6) (q0 := 0) rfl rfl, fun U hU hW => ⟨rfl, Pr_at hK hN hPc hDc hU hW, EN_at hE hS hFc hU hW⟩⟩ rfl rfl hl.1 rfl (lv_room (Nat.le_of_ble_eq_true rfl)) dJ1_append_CLAbstractStringBuilder_11 ⟨(by show 0 + x3 + 0 ≤ mc_r; omega), (by show 0 + x4 + 0 ≤ ms_r; omega)⟩) hP hD hS hA [0, 1] [] [0, 1] rfl rfl (by decide) (by decide) (by decide) rfl (fun H locs hP hD hS => ?_)
  refine lv_if_eq (tgt := 45) hx hb dJ1_append_CLAbstractStringBuilder_14 (by decide) (fun hc => ?_) (fun hc => ?_)
  · replace hm := ift hm hc
    refine lv_aload_n hx hb dJ1_append_CLAbstractStringBuilder_45 rfl (lv_at hl 0 rfl) ?_
    obtain ⟨x9, ec10, hm⟩ := bd1_s hm
    have hPc := hP.sub (ws' := (wS sa cI cZ cB cC sco sml sct q6 x1 x2)) [0, 1] rfl
    have hDc := hD.sub (ws' := (wS sa cI cZ cB cC sco sml sct q6 x1 x2)) [0, 1] (by decide) rfl
    have hFc := va_free (wc := (wS sa cI cZ cB cC sco sml sct q6 x1 x2)) hD hS hA [0, 1] rfl
    refine k_calli (wr := []) (w1 := (wS sa cI cZ cB cC sco sml sct q6 x1 x2)) (ws' := (wS sa cI cZ cB cC sco sml sct q6 x1 x2)) (va_runU (As := []) (rest := []) ⟨hx, hb, hml, hown, hts⟩ (kJ1_isLatin1 l D cI cZ cB cC H.size sa sco sml sct q6 x1 x2 x9 ec10) (va_cwU (C := RK6) (owner := RJ1) 0 hts (gdU2 (up wdt3_3) (up wdt3_5) (up wdt3_6) (up wdt3_4) (up wdt1_6) gzJ1_isLatin1) rfl rfl rfl rfl (by decide +kernel) ⟨Nat.le_of_ble_eq_true rfl, Nat.le_of_ble_eq_true rfl⟩) ⟨PrE0_blind, va_recv hK hPc (ci := 6) (q0 := 0) rfl rfl, fun U hU hW => ⟨rfl, Pr_at hK hN hPc hDc hU hW, EN_at hE hS hFc hU hW⟩⟩ rfl rfl hl.1 rfl (lv_room (Nat.le_of_ble_eq_true rfl)) dJ1_append_CLAbstractStringBuilder_46 ⟨(by show 0 + x3 + 0 ≤ mc_r; omega), (by show 0 + x4 + 0 ≤ ms_r; omega)⟩) hP hD hS hA [0, 1] [] [0, 1] rfl rfl (by decide) (by decide) (by decide) rfl (fun H locs hP hD hS => ?_)
    refine lv_if_eq (tgt := 56) hx hb dJ1_append_CLAbstractStringBuilder_49 (by decide) (fun hc => ?_) (fun hc => ?_)
    · replace hm := ift hm hc
      refine lv_aload_n hx hb dJ1_append_CLAbstractStringBuilder_56 rfl (lv_at hl 0 rfl) ?_
      refine va_get (D := D) (ci := 6) (v := .ref q6) (C := RK6) (T := TK6) (N := 4) hx hb hts inK6b hown hK hP 0 rfl rfl 0 (by decide) (hts _ (up wdt1_129)) (fun _ h9 => h9) rfl dJ1_append_CLAbstractStringBuilder_57 ?_
      refine lv_aload_n hx hb dJ1_append_CLAbstractStringBuilder_60 rfl (lv_at hl 0 rfl) ?_
      refine lv_dup hx hb dJ1_append_CLAbstractStringBuilder_61 rfl ?_
      refine va_get (D := D) (ci := 6) (v := .int sct) (C := RK6) (T := TK6) (N := 4) hx hb hts inK6b hown hK hP 0 rfl rfl 3 (by decide) (hts _ (up wdt1_132)) (fun _ h9 => h9) rfl dJ1_append_CLAbstractStringBuilder_62 ?_
      refine lv_dup_x1 hx hb dJ1_append_CLAbstractStringBuilder_65 rfl rfl ?_
      refine lv_iconst (v := 1) hx hb dJ1_append_CLAbstractStringBuilder_66 (by decide) ?_
      refine lv_iadd hx hb dJ1_append_CLAbstractStringBuilder_67 ?_
      obtain ⟨x11, ex11, hm⟩ := bd1_s hm
      refine topi (Option.some.inj ex11) ?_
      refine va_put (D := D) (ci := 6) (v := .int x11) (ty := .int) (C := RK6) (T := TK6) (N := 4) hx hb hts inK6b tyK6 tyK6_ok nmK6 hown hK hP hD hS 0 rfl rfl 3 (by decide) (hts _ (up wdt1_132)) (fun _ h9 => h9) rfl (by decide +kernel) rfl rfl (Nat.le_of_ble_eq_true rfl) dJ1_append_CLAbstractStringBuilder_68 (fun H locs hP hD hS => ?_)
      have hP : va_P D vwCl (wS sa cI cZ cB cC sco sml x11 q6 x1 x2) H := hP
      have hD : va_D A (wS sa cI cZ cB cC sco sml x11 q6 x1 x2) := hD
      refine lv_iload_n hx hb dJ1_append_CLAbstractStringBuilder_71 rfl (lv_at hl 1 rfl) ?_
      exact nomatch hm
    · replace hm := iff_ hm hc
      refine lv_aload_n hx hb dJ1_append_CLAbstractStringBuilder_52 rfl (lv_at hl 0 rfl) ?_
      exact nomatch hm
  · replace hm := iff_ hm hc
    refine lv_iload_n hx hb dJ1_append_CLAbstractStringBuilder_17 rfl (lv_at hl 1 rfl) ?_
    obtain ⟨x12, ec13, hm⟩ := bd1_s hm
    have hPc : va_P D vwCl [] H := va_P0
    have hDc : va_D A [] := va_D0
    refine k_calli0 (va_runS (As := [.int v1]) (rest := []) ⟨hx, hb, hml, hown, hts⟩ (kJ4_canEncode l D cI cZ cB cC H.size v1 x12 ec13) (va_cwS 1 hts (gdS2 (up wdt3_148) (up wdt3_149) (up wdt1_16) (gup gkJ4_canEncode)) rfl rfl rfl (by decide +kernel) ⟨Nat.le_of_ble_eq_true rfl, Nat.le_of_ble_eq_true rfl⟩) ⟨Pr_blind, fun U hU hW => ⟨rfl, Pr_at hK hN hPc hDc hU hW⟩⟩ rfl rfl hl.1 rfl (lv_room (Nat.le_of_ble_eq_true rfl)) dJ1_append_CLAbstractStringBuilder_18 ⟨(by show 0 + x3 + 0 ≤ mc_r; omega), (by show 0 + x4 + 0 ≤ ms_r; omega)⟩) hP hD hS hA (fun H locs hP hD hS => ?_)
    refine lv_if_eq (tgt := 45) hx hb dJ1_append_CLAbstractStringBuilder_21 (by decide) (fun hc => ?_) (fun hc => ?_)
    · replace hm := ift hm hc
      refine lv_aload_n hx hb dJ1_append_CLAbstractStringBuilder_45 rfl (lv_at hl 0 rfl) ?_
      obtain ⟨x14, ec15, hm⟩ := bd1_s hm
      have hPc := hP.sub (ws' := (wS sa cI cZ cB cC sco sml sct q6 x1 x2)) [0, 1] rfl
      have hDc := hD.sub (ws' := (wS sa cI cZ cB cC sco sml sct q6 x1 x2)) [0, 1] (by decide) rfl
      have hFc := va_free (wc := (wS sa cI cZ cB cC sco sml sct q6 x1 x2)) hD hS hA [0, 1] rfl
      refine k_calli (wr := []) (w1 := (wS sa cI cZ cB cC sco sml sct q6 x1 x2)) (ws' := (wS sa cI cZ cB cC sco sml sct q6 x1 x2)) (va_runU (As := []) (rest := []) ⟨hx, hb, hml, hown, hts⟩ (kJ1_isLatin1 l D cI cZ cB cC H.size sa sco sml sct q6 x1 x2 x14 ec15) (va_cwU (C := RK6) (owner := RJ1) 0 hts (gdU2 (up wdt3_3) (up wdt3_5) (up wdt3_6) (up wdt3_4) (up wdt1_6) gzJ1_isLatin1) rfl rfl rfl rfl (by decide +kernel) ⟨Nat.le_of_ble_eq_true rfl, Nat.le_of_ble_eq_true rfl⟩) ⟨PrE0_blind, va_recv hK hPc (ci := 6) (q0 := 0) rfl rfl, fun U hU hW => ⟨rfl, Pr_at hK hN hPc hDc hU hW, EN_at hE hS hFc hU hW⟩⟩ rfl rfl hl.1 rfl (lv_room (Nat.le_of_ble_eq_true rfl)) dJ1_append_CLAbstractStringBuilder_46 ⟨(by show 0 + x3 + 0 ≤ mc_r; omega), (by show 0 + x4 + 0 ≤ ms_r; omega)⟩) hP hD hS hA [0, 1] [] [0, 1] rfl rfl (by decide) (by decide) (by decide) rfl (fun H locs hP hD hS => ?_)
      refine lv_if_eq (tgt := 56) hx hb dJ1_append_CLAbstractStringBuilder_49 (by decide) (fun hc => ?_) (fun hc => ?_)
      · replace hm := ift hm hc
        refine lv_aload_n hx hb dJ1_append_CLAbstractStringBuilder_56 rfl (lv_at hl 0 rfl) ?_
        refine va_get (D := D) (ci := 6) (v := .ref q6) (C := RK6) (T := TK6) (N := 4) hx hb hts inK6b hown hK hP 0 rfl rfl 0 (by decide) (hts _ (up wdt1_129)) (fun _ h9 => h9) rfl dJ1_append_CLAbstractStringBuilder_57 ?_
        refine lv_aload_n hx hb dJ1_append_CLAbstractStringBuilder_60 rfl (lv_at hl 0 rfl) ?_
        refine lv_dup hx hb dJ1_append_CLAbstractStringBuilder_61 rfl ?_
        refine va_get (D := D) (ci := 6) (v := .int sct) (C := RK6) (T := TK6) (N := 4) hx hb hts inK6b hown hK hP 0 rfl rfl 3 (by decide) (hts _ (up wdt1_132)) (fun _ h9 => h9) rfl dJ1_append_CLAbstractStringBuilder_62 ?_
        refine lv_dup_x1 hx hb dJ1_append_CLAbstractStringBuilder_65 rfl rfl ?_
        refine lv_iconst (v := 1) hx hb dJ1_append_CLAbstractStringBuilder_66 (by decide) ?_
        refine lv_iadd hx hb dJ1_append_CLAbstractStringBuilder_67 ?_
        obtain ⟨x16, ex16, hm⟩ := bd1_s hm
        refine topi (Option.some.inj ex16) ?_
        refine va_put (D := D) (ci := 6) (v := .int x16) (ty := .int) (C := RK6) (T := TK6) (N := 4) hx hb hts inK6b tyK6 tyK6_ok nmK6 hown hK hP hD hS 0 rfl rfl 3 (by decide) (hts _ (up wdt1_132)) (fun _ h9 => h9) rfl (by decide +kernel) rfl rfl (Nat.le_of_ble_eq_true rfl) dJ1_append_CLAbstractStringBuilder_68 (fun H locs hP hD hS => ?_)
        have hP : va_P D vwCl (wS sa cI cZ cB cC sco sml x16 q6 x1 x2) H := hP
        have hD : va_D A (wS sa cI cZ cB cC sco sml x16 q6 x1 x2) := hD
        refine lv_iload_n hx hb dJ1_append_CLAbstractStringBuilder_71 rfl (lv_at hl 1 rfl) ?_
        exact nomatch hm
      · replace hm := iff_ hm hc
        refine lv_aload_n hx hb dJ1_append_CLAbstractStringBuilder_52 rfl (lv_at hl 0 rfl) ?_
        exact nomatch hm
    · replace hm := iff_ hm hc
      refine lv_aload_n hx hb dJ1_append_CLAbstractStringBuilder_24 rfl (lv_at hl 0 rfl) ?_
      refine va_get (D := D) (ci := 6) (v := .ref q6) (C := RK6) (T := TK6) (N := 4) hx hb hts inK6b hown hK hP 0 rfl rfl 0 (by decide) (hts _ (up wdt1_129)) (fun _ h9 => h9) rfl dJ1_append_CLAbstractStringBuilder_25 ?_
      refine lv_aload_n hx hb dJ1_append_CLAbstractStringBuilder_28 rfl (lv_at hl 0 rfl) ?_
      refine lv_dup hx hb dJ1_append_CLAbstractStringBuilder_29 rfl ?_
      refine va_get (D := D) (ci := 6) (v := .int sct) (C := RK6) (T := TK6) (N := 4) hx hb hts inK6b hown hK hP 0 rfl rfl 3 (by decide) (hts _ (up wdt1_132)) (fun _ h9 => h9) rfl dJ1_append_CLAbstractStringBuilder_30 ?_
      refine lv_dup_x1 hx hb dJ1_append_CLAbstractStringBuilder_33 rfl rfl ?_
      refine lv_iconst (v := 1) hx hb dJ1_append_CLAbstractStringBuilder_34 (by decide) ?_
      refine lv_iadd hx hb dJ1_append_CLAbstractStringBuilder_35 ?_
      obtain ⟨x17, ex17, hm⟩ := bd1_s hm
      refine topi (Option.some.inj ex17) ?_
      refine va_put (D := D) (ci := 6) (v := .int x17) (ty := .int) (C := RK6) (T := TK6) (N := 4) hx hb hts inK6b tyK6 tyK6_ok nmK6 hown hK hP hD hS 0 rfl rfl 3 (by decide) (hts _ (up wdt1_132)) (fun _ h9 => h9) rfl (by decide +kernel) rfl rfl (Nat.le_of_ble_eq_true rfl) dJ1_append_CLAbstractStringBuilder_36 (fun H locs hP hD hS => ?_)
      have hP : va_P D vwCl (wS sa cI cZ cB cC sco sml x17 q6 x1 x2) H := hP
      have hD : va_D A (wS sa cI cZ cB cC sco sml x17 q6 x1 x2) := hD
      refine lv_iload_n hx hb dJ1_append_CLAbstractStringBuilder_39 rfl (lv_at hl 1 rfl) ?_
      refine lv_i2b (v := i2b v1) hx hb dJ1_append_CLAbstractStringBuilder_40 rfl ?_
      obtain ⟨x18, ex18, hm⟩ := bd1_s hm
      obtain ⟨hix18, ex18⟩ := wrt_s ex18
      refine va_bast hx hb hK hP hD hS 1 2 rfl rfl hix18 dJ1_append_CLAbstractStringBuilder_41 (fun H locs hP hD hS => ?_)
      rw [ex18] at hP hD
      have hP : va_P D vwCl (wS sa cI cZ cB cC sco sml x17 q6 x1 x18) H := hP
      have hD : va_D A (wS sa cI cZ cB cC sco sml x17 q6 x1 x18) := hD
      refine lv_goto (tgt := 75) hx hb dJ1_append_CLAbstractStringBuilder_42 (by decide) ?_
      refine lv_aload_n hx hb dJ1_append_CLAbstractStringBuilder_75 rfl (lv_at hl 0 rfl) ?_
      replace hm := Option.some.inj hm
      simp only [Prod.mk.injEq] at hm
      obtain ⟨rfl, rfl, rfl, rfl, rfl⟩ := hm
      refine W.widen (k := mc_r) (n := ms_r) (by omega) (by omega) ?_
      exact k_retrd hx hb hr hlocks (u := q6) hP hD hS dJ1_append_CLAbstractStringBuilder_76
def mK6_append_CLStringBuilder (sco : Int32) (sct : Int32) (sn : Nat) (sb : Nat → Int32) (v1 : Int32) : Option (Int32 × Nat × (Nat → Int32) × Nat × Nat) :=
  bd5 (mJ1_append_CLAbstractStringBuilder sco sct sn sb v1) fun x1 x2 x3 x4 x5 => wa3 x4 x5 <| some (x1, x2, x3, 0, 0)
abbrev rmK6_append_CLStringBuilder (mc ms : Nat) : Room := { frames := 6, cells := mc, slots := ms, locals := 243 }
set_option maxHeartbeats 4000000 in
set_option maxRecDepth 100000 in
theorem kK6_append_CLStringBuilder (l : Launch) (D : va_G) (cI cZ cB cC : ClassId) (sz : Nat) (sa : Nat) (sco : Int32) (sml : Int32) (sct : Int32) (s_ad : Nat) (sn : Nat) (sb : Nat → Int32) (v1 : Int32) (sct_r : Int32) (sn_r : Nat) (sb_r : Nat → Int32) (mc_r : Nat) (ms_r : Nat) (hm : mK6_append_CLStringBuilder sco sct sn sb v1 = some (sct_r, sn_r, sb_r, mc_r, ms_r)) : Met l yK6_append_CLStringBuilder wzK6_append_CLStringBuilder (rmK6_append_CLStringBuilder mc_r ms_r) (va_Pc [.ref sa, .int v1] (PrE0 D (tyL cI cZ cB cC) sz (wS sa cI cZ cB cC sco sml sct s_ad sn sb))) (QRd D (va_A (wS sa cI cZ cB cC sco sml sct s_ad sn sb) sz) sa (fun u => (wS sa cI cZ cB cC sco sml sct_r u sn_r sb_r))) mc_r ms_r (va_A (wS sa cI cZ cB cC sco sml sct s_ad sn sb) sz) := by
  refine Met.ofW (cc := cK6_append_CLStringBuilder) (maxL := 2) (ret := (some (.object "java/lang/StringBuilder"))) (by decide) rfl ?_
  intro p e s m args below meth c s₁ B hml hv
  obtain ⟨rfl, ⟨hsz, hP, hK, hD0, hN⟩, hE⟩ := hv
  have hx := B.exec
  have hb := B.bytes
  have hr := B.returns
  have hts := htsB (atoms_spec (ws := wzK6_append_CLStringBuilder) B.pre)
  have hown : s.vm.findClass RK6 = some m.cls := findClass_of_methodNamed B.named
  have hlocks := B.notSynchronized
  subst hsz
  have hD := hD0.self (sz := s.heap.size)
  generalize hAe : va_A (wS sa cI cZ cB cC sco sml sct s_ad sn sb) s.heap.size = A at hD hE ⊢
  have hA : ∀ q : Nat, s.heap.size ≤ q → A q := fun q h => by rw [← hAe]; exact Or.inr h
  refine kstart (A := A) hP (fun H hP hS => ?_)
  have hl := lv_entry ([.ref sa, .int v1]) (n := 2) (Nat.le_of_ble_eq_true rfl)
  rw [lg_entry_eq]
  generalize (lg_sl ([.ref sa, .int v1]) ++ List.replicate (2 - (lg_sl ([.ref sa, .int v1])).length) Slot.unset).toArray = ls at hl ⊢
  have hl : lv_has ls 2 [(0, .ref sa), (1, .int v1)] := hl
  unfold mK6_append_CLStringBuilder at hm
  obtain ⟨hE0z, ⟨dg1, hE1z, hE1t⟩, ⟨dg2, hE2z, hE2t⟩, hE4, ⟨ka0, kv0, hkr0, hk0⟩, ⟨ka1, kv1, hkr1, hk1⟩, ⟨ka2, kv2, hkr2, hk2⟩⟩ := id hE
  refine lv_aload_n hx hb dK6_append_CLStringBuilder_0 rfl (lv_at hl 0 rfl) ?_
  refine lv_iload_n hx hb dK6_append_CLStringBuilder_1 rfl (lv_at hl 1 rfl) ?_
  obtain ⟨x1, x2, x3, x4, x5, ec6, hm⟩ := bd5_s hm
  obtain ⟨mcec6, msec6, hm, hcec6, hsec6⟩ := wa3_s hm
  have hPc := hP.sub (ws' := (wS sa cI cZ cB cC sco sml sct s_ad sn sb)) [0, 1] rfl
  have hDc := hD.sub (ws' := (wS sa cI cZ cB cC sco sml sct s_ad sn sb)) [0, 1] (by decide) rfl
  have hFc := va_free (wc := (wS sa cI cZ cB cC sco sml sct s_ad sn sb)) hD hS hA [0, 1] rfl
  refine k_callrdc (wr := []) (w1 := fun u => (wS sa cI cZ cB cC sco sml x1 u x2 x3)) (ws' := fun u => (wS sa cI cZ cB cC sco sml x1 u x2 x3)) (va_runSU (C := RK6) (hK.1 6 _ rfl).2 (As := [.int v1]) (rest := []) ⟨hx, hb, hml, hown, hts⟩ (kJ1_append_CLAbstractStringBuilder l D cI cZ cB cC H.size sa sco sml sct s_ad sn sb v1 x1 x2 x3 x4 x5 ec6) (va_cwSU 1 hts (gdSU2 (up wdt3_145) (up wdt4_213) (up wdt1_141) (up wdt3_146) (up wdt1_6) gzJ1_append_CLAbstractStringBuilder) rfl rfl rfl (by decide +kernel) ⟨Nat.le_of_ble_eq_true rfl, Nat.le_of_ble_eq_true rfl⟩) ⟨PrE0_blind, va_recv hK hPc (ci := 6) (q0 := 0) rfl rfl, fun U hU hW => ⟨rfl, Pr_at hK hN hPc hDc hU hW, EN_at hE hS hFc hU hW⟩⟩ rfl rfl hl.1 rfl (lv_room (Nat.le_of_ble_eq_true rfl)) dK6_append_CLStringBuilder_2 ⟨(by show 0 + x4 ≤ mc_r; omega), (by show 0 + x5 ≤ ms_r; omega)⟩) hP hD hS hA [0, 1] [] [0, 1] rfl rfl (by decide) (by decide) (by decide) (fun _ => rfl) (fun q7 H locs hP hD hS => ?_)
  have hP : va_P D vwCl (wS sa cI cZ cB cC sco sml x1 q7 x2 x3) H := hP
  have hD : va_D A (wS sa cI cZ cB cC sco sml x1 q7 x2 x3) := hD
  refine lv_pop hx hb dK6_append_CLStringBuilder_5 rfl ?_
  refine lv_aload_n hx hb dK6_append_CLStringBuilder_6 rfl (lv_at hl 0 rfl) ?_
  replace hm := Option.some.inj hm
  simp only [Prod.mk.injEq] at hm
  obtain ⟨rfl, rfl, rfl, rfl, rfl⟩ := hm
  refine W.widen (k := mc_r) (n := ms_r) (by omega) (by omega) ?_
  exact k_retrd hx hb hr hlocks (u := q7) hP hD hS dK6_append_CLStringBuilder_7
def mK3_tell (cpu : Nat → Int32) (cco : Nat → Int32) (sco : Int32) (sct : Int32) (sn : Nat) (sb : Nat → Int32) (v1 : Int32) : Option (Int32 × Nat × (Nat → Int32) × Nat × Nat) :=
  bd1 (rd cpu 12 v1) fun x1 => if x1 = 0 then
  (bd5 (mK6_append_LStringLStringBuilder sco sct sn sb 5 ktx2) fun x2 x3 x4 x5 x6 => wa3 x5 x6 <| bd1 (rd cco 12 v1) fun x9 => bd5 (mK6_append_ILStringBuilder sco x2 x3 x4 (x9 / 72)) fun x10 x11 x12 x13 x14 => wa3 x13 x14 <| bd5 (mK6_append_CLStringBuilder sco x10 x11 x12 32) fun x17 x18 x19 x20 x21 => wa3 x20 x21 <| bd1 (rd cco 12 v1) fun x24 => bd5 (mK6_append_ILStringBuilder sco x17 x18 x19 ((x24 / 12) - (x24 / 12) / 6 * 6)) fun x25 x26 x27 x28 x29 => wa3 x28 x29 <| bd5 (mK6_append_CLStringBuilder sco x25 x26 x27 32) fun x32 x33 x34 x35 x36 => wa3 x35 x36 <| bd1 (rd cco 12 v1) fun x39 => bd5 (mK6_append_ILStringBuilder sco x32 x33 x34 (x39 - x39 / 12 * 12)) fun x40 x41 x42 x43 x44 => wa3 x43 x44 <| some (x40, x41, x42, 0, 0))
  else
  (bd5 (mK6_append_LStringLStringBuilder sco sct sn sb 4 ktx1) fun x47 x48 x49 x50 x51 => wa3 x50 x51 <| bd1 (rd cco 12 v1) fun x54 => bd5 (mK6_append_ILStringBuilder sco x47 x48 x49 (x54 / 72)) fun x55 x56 x57 x58 x59 => wa3 x58 x59 <| bd5 (mK6_append_CLStringBuilder sco x55 x56 x57 32) fun x62 x63 x64 x65 x66 => wa3 x65 x66 <| bd1 (rd cco 12 v1) fun x69 => bd5 (mK6_append_ILStringBuilder sco x62 x63 x64 ((x69 / 12) - (x69 / 12) / 6 * 6)) fun x70 x71 x72 x73 x74 => wa3 x73 x74 <| bd5 (mK6_append_CLStringBuilder sco x70 x71 x72 32) fun x77 x78 x79 x80 x81 => wa3 x80 x81 <| bd1 (rd cco 12 v1) fun x84 => bd5 (mK6_append_ILStringBuilder sco x77 x78 x79 (x84 - x84 / 12 * 12)) fun x85 x86 x87 x88 x89 => wa3 x88 x89 <| some (x85, x86, x87, 0, 0))
abbrev rmK3_tell (mc ms : Nat) : Room := { frames := 7, cells := mc, slots := ms, locals := 266 }
set_option maxHeartbeats 4000000 in
set_option maxRecDepth 100000 in
theorem kK3_tell (l : Launch) (D : va_G) (cI cZ cB cC : ClassId) (sz : Nat) (ca : Nat) (ca1 : Nat) (ca2 : Nat) (ca3 : Nat) (sa : Nat) (cn : Int32) (cpu : Nat → Int32) (cco : Nat → Int32) (cwe : Nat → Int32) (sco : Int32) (sml : Int32) (sct : Int32) (s_ad : Nat) (sn : Nat) (sb : Nat → Int32) (v1 : Int32) (sct_r : Int32) (sn_r : Nat) (sb_r : Nat → Int32) (mc_r : Nat) (ms_r : Nat) (hm : mK3_tell cpu cco sco sct sn sb v1 = some (sct_r, sn_r, sb_r, mc_r, ms_r)) : Met l yK3_tell wzK3_tell (rmK3_tell mc_r ms_r) (va_Pc [.ref ca, .int v1, .ref sa] (PrE0 D (tyL cI cZ cB cC) sz (wCS ca ca1 ca2 ca3 sa cI cZ cB cC cn cpu cco cwe sco sml sct s_ad sn sb))) (QVd D (va_A (wCS ca ca1 ca2 ca3 sa cI cZ cB cC cn cpu cco cwe sco sml sct s_ad sn sb) sz) (fun u => (wCS ca ca1 ca2 ca3 sa cI cZ cB cC cn cpu cco cwe sco sml sct_r u sn_r sb_r))) mc_r ms_r (va_A (wCS ca ca1 ca2 ca3 sa cI cZ cB cC cn cpu cco cwe sco sml sct s_ad sn sb) sz) := by
  refine Met.ofW (cc := cK3_tell) (maxL := 3) (ret := none) (by decide) rfl ?_
  intro p e s m args below meth c s₁ B hml hv
  obtain ⟨rfl, ⟨hsz, hP, hK, hD0, hN⟩, hE⟩ := hv
  have hx := B.exec
  have hb := B.bytes
  have hr := B.returns
  have hts := htsB (atoms_spec (ws := wzK3_tell) B.pre)
  have hown : s.vm.findClass RK3 = some m.cls := findClass_of_methodNamed B.named
  have hlocks := B.notSynchronized
  subst hsz
  have hD := hD0.self (sz := s.heap.size)
  generalize hAe : va_A (wCS ca ca1 ca2 ca3 sa cI cZ cB cC cn cpu cco cwe sco sml sct s_ad sn sb) s.heap.size = A at hD hE ⊢
  have hA : ∀ q : Nat, s.heap.size ≤ q → A q := fun q h => by rw [← hAe]; exact Or.inr h
  refine kstart (A := A) hP (fun H hP hS => ?_)
  have hl := lv_entry ([.ref ca, .int v1, .ref sa]) (n := 3) (Nat.le_of_ble_eq_true rfl)
  rw [lg_entry_eq]
  generalize (lg_sl ([.ref ca, .int v1, .ref sa]) ++ List.replicate (3 - (lg_sl ([.ref ca, .int v1, .ref sa])).length) Slot.unset).toArray = ls at hl ⊢
  have hl : lv_has ls 3 [(0, .ref ca), (1, .int v1), (2, .ref sa)] := hl
  unfold mK3_tell at hm
  obtain ⟨hE0z, ⟨dg1, hE1z, hE1t⟩, ⟨dg2, hE2z, hE2t⟩, hE4, ⟨ka0, kv0, hkr0, hk0⟩, ⟨ka1, kv1, hkr1, hk1⟩, ⟨ka2, kv2, hkr2, hk2⟩⟩ := id hE
  refine lv_aload_n hx hb dK3_tell_0 rfl (lv_at hl 2 rfl) ?_
  refine lv_aload_n hx hb dK3_tell_1 rfl (lv_at hl 0 rfl) ?_
  refine va_get (D := D) (ci := 3) (v := .ref ca1) (C := RK3) (T := TK3) (N := 4) hx hb hts inK3b hown hK hP 0 rfl rfl 0 (by decide) (hts _ (up wdt1_79)) (fun _ h9 => h9) rfl dK3_tell_2 ?_
  refine lv_iload_n hx hb dK3_tell_5 rfl (lv_at hl 1 rfl) ?_
  obtain ⟨x1, ex1, hm⟩ := bd1_s hm
  obtain ⟨hix1, ex1⟩ := rd_s ex1
  refine va_zald hx hb hK hP 1 1 rfl rfl hix1 dK3_tell_6 ?_
  refine topi ex1 ?_
  refine lv_if_eq (tgt := 15) hx hb dK3_tell_7 (by decide) (fun hc => ?_) (fun hc => ?_)
  · replace hm := ift hm hc
    refine va_ldcS hx hb hown hkr2 dK3_tell_15 ?_
    obtain ⟨x2, x3, x4, x5, x6, ec7, hm⟩ := bd5_s hm
    obtain ⟨mcec7, msec7, hm, hcec7, hsec7⟩ := wa3_s hm
    have hPc := hP.sub (ws' := (wS sa cI cZ cB cC sco sml sct s_ad sn sb)) [4, 5] rfl
    have hDc := hD.sub (ws' := (wS sa cI cZ cB cC sco sml sct s_ad sn sb)) [4, 5] (by decide) rfl
    have hFc := va_free (wc := (wS sa cI cZ cB cC sco sml sct s_ad sn sb)) hD hS hA [4, 5] rfl
    refine k_callrdc (wr := [(ca, .inr (3, [.ref ca1, .ref ca2, .ref ca3, .int cn])), (ca1, .inl (cZ, 12, .inl cpu)), (ca2, .inl (cI, 12, .inl cco)), (ca3, .inl (cI, 12, .inl cwe))]) (w1 := fun u => (wS sa cI cZ cB cC sco sml x2 u x3 x4)) (ws' := fun u => (wCS ca ca1 ca2 ca3 sa cI cZ cB cC cn cpu cco cwe sco sml x2 u x3 x4)) (va_runV (As := [.ref ka2]) (rest := []) ⟨hx, hb, hml, hown, hts⟩ (kK6_append_LStringLStringBuilder l D cI cZ cB cC H.size sa sco sml sct s_ad sn sb ka2 kv2 5 ktx2 x2 x3 x4 x5 x6 ec7) (cwV 1 hts (gdV2 (up wdt3_115) (up wdt3_30) (up wdt3_31) (up wdt1_7) gzK6_append_LStringLStringBuilder) rfl rfl rfl (by decide +kernel) ⟨Nat.le_of_ble_eq_true rfl, Nat.le_of_ble_eq_true rfl⟩) ⟨PrE1_blind, va_recv hK hPc (ci := 6) (q0 := 0) rfl rfl, fun U hU hW => ⟨rfl, Pr_at hK hN hPc hDc hU hW, EN_at hE hS hFc hU hW, StrK_at hk2 hS hFc hU hW⟩⟩ rfl rfl hl.1 rfl (lv_room (Nat.le_of_ble_eq_true rfl)) dK3_tell_17 ⟨(by show 0 + x5 ≤ mc_r; omega), (by show 0 + x6 ≤ ms_r; omega)⟩) hP hD hS hA [4, 5] [0, 1, 2, 3] [0, 1, 2, 3, 4, 5] rfl rfl (by decide) (by decide) (by decide) (fun _ => rfl) (fun q8 H locs hP hD hS => ?_)
    have hP : va_P D vwCl (wCS ca ca1 ca2 ca3 sa cI cZ cB cC cn cpu cco cwe sco sml x2 q8 x3 x4) H := hP
    have hD : va_D A (wCS ca ca1 ca2 ca3 sa cI cZ cB cC cn cpu cco cwe sco sml x2 q8 x3 x4) := hD
    refine lv_pop hx hb dK3_tell_20 rfl ?_
    refine lv_aload_n hx hb dK3_tell_21 rfl (lv_at hl 2 rfl) ?_
    refine lv_aload_n hx hb dK3_tell_22 rfl (lv_at hl 0 rfl) ?_
    refine va_get (D := D) (ci := 3) (v := .ref ca2) (C := RK3) (T := TK3) (N := 4) hx hb hts inK3b hown hK hP 0 rfl rfl 1 (by decide) (hts _ (up wdt1_80)) (fun _ h9 => h9) rfl dK3_tell_23 ?_
    refine lv_iload_n hx hb dK3_tell_26 rfl (lv_at hl 1 rfl) ?_
    obtain ⟨x9, ex9, hm⟩ := bd1_s hm
    obtain ⟨hix9, ex9⟩ := rd_s ex9
    refine va_iald hx hb hK hP 2 0 rfl rfl hix9 dK3_tell_27 ?_
    refine topi ex9 ?_
    refine lv_bipush (v := 72) hx hb dK3_tell_28 (by decide) ?_
    refine lv_idiv hx hb dK3_tell_30 (by decide) ?_
    obtain ⟨x10, x11, x12, x13, x14, ec15, hm⟩ := bd5_s hm
    obtain ⟨mcec15, msec15, hm, hcec15, hsec15⟩ := wa3_s hm
    have hPc := hP.sub (ws' := (wS sa cI cZ cB cC sco sml x2 q8 x3 x4)) [4, 5] rfl
    have hDc := hD.sub (ws' := (wS sa cI cZ cB cC sco sml x2 q8 x3 x4)) [4, 5] (by decide) rfl
    have hFc := va_free (wc := (wS sa cI cZ cB cC sco sml x2 q8 x3 x4)) hD hS hA [4, 5] rfl
    refine k_callrdc (wr := [(ca, .inr (3, [.ref ca1, .ref ca2, .ref ca3, .int cn])), (ca1, .inl (cZ, 12, .inl cpu)), (ca2, .inl (cI, 12, .inl cco)), (ca3, .inl (cI, 12, .inl cwe))]) (w1 := fun u => (wS sa cI cZ cB cC sco sml x10 u x11 x12)) (ws' := fun u => (wCS ca ca1 ca2 ca3 sa cI cZ cB cC cn cpu cco cwe sco sml x10 u x11 x12)) (va_runV (As := [.int (x9 / 72)]) (rest := []) ⟨hx, hb, hml, hown, hts⟩ (kK6_append_ILStringBuilder l D cI cZ cB cC H.size sa sco sml x2 q8 x3 x4 (x9 / 72) x10 x11 x12 x13 x14 ec15) (cwV 1 hts (gdV2 (up wdt3_116) (up wdt3_117) (up wdt3_118) (up wdt1_7) gzK6_append_ILStringBuilder) rfl rfl rfl (by decide +kernel) ⟨Nat.le_of_ble_eq_true rfl, Nat.le_of_ble_eq_true rfl⟩) ⟨PrE0_blind, va_recv hK hPc (ci := 6) (q0 := 0) rfl rfl, fun U hU hW => ⟨rfl, Pr_at hK hN hPc hDc hU hW, EN_at hE hS hFc hU hW⟩⟩ rfl rfl hl.1 rfl (lv_room (Nat.le_of_ble_eq_true rfl)) dK3_tell_31 ⟨(by show 0 + x5 + x13 ≤ mc_r; omega), (by show 0 + x6 + x14 ≤ ms_r; omega)⟩) hP hD hS hA [4, 5] [0, 1, 2, 3] [0, 1, 2, 3, 4, 5] rfl rfl (by decide) (by decide) (by decide) (fun _ => rfl) (fun q16 H locs hP hD hS => ?_)
    have hP : va_P D vwCl (wCS ca ca1 ca2 ca3 sa cI cZ cB cC cn cpu cco cwe sco sml x10 q16 x11 x12) H := hP
    have hD : va_D A (wCS ca ca1 ca2 ca3 sa cI cZ cB cC cn cpu cco cwe sco sml x10 q16 x11 x12) := hD
    refine lv_pop hx hb dK3_tell_34 rfl ?_
    refine lv_aload_n hx hb dK3_tell_35 rfl (lv_at hl 2 rfl) ?_
    refine lv_bipush (v := 32) hx hb dK3_tell_36 (by decide) ?_
    obtain ⟨x17, x18, x19, x20, x21, ec22, hm⟩ := bd5_s hm
    obtain ⟨mcec22, msec22, hm, hcec22, hsec22⟩ := wa3_s hm
    have hPc := hP.sub (ws' := (wS sa cI cZ cB cC sco sml x10 q16 x11 x12)) [4, 5] rfl
    have hDc := hD.sub (ws' := (wS sa cI cZ cB cC sco sml x10 q16 x11 x12)) [4, 5] (by decide) rfl
    have hFc := va_free (wc := (wS sa cI cZ cB cC sco sml x10 q16 x11 x12)) hD hS hA [4, 5] rfl
    refine k_callrdc (wr := [(ca, .inr (3, [.ref ca1, .ref ca2, .ref ca3, .int cn])), (ca1, .inl (cZ, 12, .inl cpu)), (ca2, .inl (cI, 12, .inl cco)), (ca3, .inl (cI, 12, .inl cwe))]) (w1 := fun u => (wS sa cI cZ cB cC sco sml x17 u x18 x19)) (ws' := fun u => (wCS ca ca1 ca2 ca3 sa cI cZ cB cC cn cpu cco cwe sco sml x17 u x18 x19)) (va_runV (As := [.int 32]) (rest := []) ⟨hx, hb, hml, hown, hts⟩ (kK6_append_CLStringBuilder l D cI cZ cB cC H.size sa sco sml x10 q16 x11 x12 32 x17 x18 x19 x20 x21 ec22) (cwV 1 hts (gdV2 (up wdt3_141) (up wdt3_142) (up wdt3_143) (up wdt1_7) gzK6_append_CLStringBuilder) rfl rfl rfl (by decide +kernel) ⟨Nat.le_of_ble_eq_true rfl, Nat.le_of_ble_eq_true rfl⟩) ⟨PrE0_blind, va_recv hK hPc (ci := 6) (q0 := 0) rfl rfl, fun U hU hW => ⟨rfl, Pr_at hK hN hPc hDc hU hW, EN_at hE hS hFc hU hW⟩⟩ rfl rfl hl.1 rfl (lv_room (Nat.le_of_ble_eq_true rfl)) dK3_tell_38 ⟨(by show 0 + x5 + x13 + x20 ≤ mc_r; omega), (by show 0 + x6 + x14 + x21 ≤ ms_r; omega)⟩) hP hD hS hA [4, 5] [0, 1, 2, 3] [0, 1, 2, 3, 4, 5] rfl rfl (by decide) (by decide) (by decide) (fun _ => rfl) (fun q23 H locs hP hD hS => ?_)
    have hP : va_P D vwCl (wCS ca ca1 ca2 ca3 sa cI cZ cB cC cn cpu cco cwe sco sml x17 q23 x18 x19) H := hP
    have hD : va_D A (wCS ca ca1 ca2 ca3 sa cI cZ cB cC cn cpu cco cwe sco sml x17 q23 x18 x19) := hD
    refine lv_pop hx hb dK3_tell_41 rfl ?_
    refine lv_aload_n hx hb dK3_tell_42 rfl (lv_at hl 2 rfl) ?_
    refine lv_aload_n hx hb dK3_tell_43 rfl (lv_at hl 0 rfl) ?_
    refine va_get (D := D) (ci := 3) (v := .ref ca2) (C := RK3) (T := TK3) (N := 4) hx hb hts inK3b hown hK hP 0 rfl rfl 1 (by decide) (hts _ (up wdt1_80)) (fun _ h9 => h9) rfl dK3_tell_44 ?_
    refine lv_iload_n hx hb dK3_tell_47 rfl (lv_at hl 1 rfl) ?_
    obtain ⟨x24, ex24, hm⟩ := bd1_s hm
    obtain ⟨hix24, ex24⟩ := rd_s ex24
    refine va_iald hx hb hK hP 2 0 rfl rfl hix24 dK3_tell_48 ?_
    refine topi ex24 ?_
    refine lv_bipush (v := 12) hx hb dK3_tell_49 (by decide) ?_
    refine lv_idiv hx hb dK3_tell_51 (by decide) ?_
    refine lv_bipush (v := 6) hx hb dK3_tell_52 (by decide) ?_
    refine lv_irem hx hb dK3_tell_54 (by decide) ?_
    obtain ⟨x25, x26, x27, x28, x29, ec30, hm⟩ := bd5_s hm
    obtain ⟨mcec30, msec30, hm, hcec30, hsec30⟩ := wa3_s hm
    have hPc := hP.sub (ws' := (wS sa cI cZ cB cC sco sml x17 q23 x18 x19)) [4, 5] rfl
    have hDc := hD.sub (ws' := (wS sa cI cZ cB cC sco sml x17 q23 x18 x19)) [4, 5] (by decide) rfl
    have hFc := va_free (wc := (wS sa cI cZ cB cC sco sml x17 q23 x18 x19)) hD hS hA [4, 5] rfl
    refine k_callrdc (wr := [(ca, .inr (3, [.ref ca1, .ref ca2, .ref ca3, .int cn])), (ca1, .inl (cZ, 12, .inl cpu)), (ca2, .inl (cI, 12, .inl cco)), (ca3, .inl (cI, 12, .inl cwe))]) (w1 := fun u => (wS sa cI cZ cB cC sco sml x25 u x26 x27)) (ws' := fun u => (wCS ca ca1 ca2 ca3 sa cI cZ cB cC cn cpu cco cwe sco sml x25 u x26 x27)) (va_runV (As := [.int ((x24 / 12) - (x24 / 12) / 6 * 6)]) (rest := []) ⟨hx, hb, hml, hown, hts⟩ (kK6_append_ILStringBuilder l D cI cZ cB cC H.size sa sco sml x17 q23 x18 x19 ((x24 / 12) - (x24 / 12) / 6 * 6) x25 x26 x27 x28 x29 ec30) (cwV 1 hts (gdV2 (up wdt3_116) (up wdt3_117) (up wdt3_118) (up wdt1_7) gzK6_append_ILStringBuilder) rfl rfl rfl (by decide +kernel) ⟨Nat.le_of_ble_eq_true rfl, Nat.le_of_ble_eq_true rfl⟩) ⟨PrE0_blind, va_recv hK hPc (ci := 6) (q0 := 0) rfl rfl, fun U hU hW => ⟨rfl, Pr_at hK hN hPc hDc hU hW, EN_at hE hS hFc hU hW⟩⟩ rfl rfl hl.1 rfl (lv_room (Nat.le_of_ble_eq_true rfl)) dK3_tell_55 ⟨(by show 0 + x5 + x13 + x20 + x28 ≤ mc_r; omega), (by show 0 + x6 + x14 + x21 + x29 ≤ ms_r; omega)⟩) hP hD hS hA [4, 5] [0, 1, 2, 3] [0, 1, 2, 3, 4, 5] rfl rfl (by decide) (by decide) (by decide) (fun _ => rfl) (fun q31 H locs hP hD hS => ?_)
    have hP : va_P D vwCl (wCS ca ca1 ca2 ca3 sa cI cZ cB cC cn cpu cco cwe sco sml x25 q31 x26 x27) H := hP
    have hD : va_D A (wCS ca ca1 ca2 ca3 sa cI cZ cB cC cn cpu cco cwe sco sml x25 q31 x26 x27) := hD
    refine lv_pop hx hb dK3_tell_58 rfl ?_
    refine lv_aload_n hx hb dK3_tell_59 rfl (lv_at hl 2 rfl) ?_
    refine lv_bipush (v := 32) hx hb dK3_tell_60 (by decide) ?_
    obtain ⟨x32, x33, x34, x35, x36, ec37, hm⟩ := bd5_s hm
    obtain ⟨mcec37, msec37, hm, hcec37, hsec37⟩ := wa3_s hm
    have hPc := hP.sub (ws' := (wS sa cI cZ cB cC sco sml x25 q31 x26 x27)) [4, 5] rfl
    have hDc := hD.sub (ws' := (wS sa cI cZ cB cC sco sml x25 q31 x26 x27)) [4, 5] (by decide) rfl
    have hFc := va_free (wc := (wS sa cI cZ cB cC sco sml x25 q31 x26 x27)) hD hS hA [4, 5] rfl
    refine k_callrdc (wr := [(ca, .inr (3, [.ref ca1, .ref ca2, .ref ca3, .int cn])), (ca1, .inl (cZ, 12, .inl cpu)), (ca2, .inl (cI, 12, .inl cco)), (ca3, .inl (cI, 12, .inl cwe))]) (w1 := fun u => (wS sa cI cZ cB cC sco sml x32 u x33 x34)) (ws' := fun u => (wCS ca ca1 ca2 ca3 sa cI cZ cB cC cn cpu cco cwe sco sml x32 u x33 x34)) (va_runV (As := [.int 32]) (rest := []) ⟨hx, hb, hml, hown, hts⟩ (kK6_append_CLStringBuilder l D cI cZ cB cC H.size sa sco sml x25 q31 x26 x27 32 x32 x33 x34 x35 x36 ec37) (cwV 1 hts (gdV2 (up wdt3_141) (up wdt3_142) (up wdt3_143) (up wdt1_7) gzK6_append_CLStringBuilder) rfl rfl rfl (by decide +kernel) ⟨Nat.le_of_ble_eq_true rfl, Nat.le_of_ble_eq_true rfl⟩) ⟨PrE0_blind, va_recv hK hPc (ci := 6) (q0 := 0) rfl rfl, fun U hU hW => ⟨rfl, Pr_at hK hN hPc hDc hU hW, EN_at hE hS hFc hU hW⟩⟩ rfl rfl hl.1 rfl (lv_room (Nat.le_of_ble_eq_true rfl)) dK3_tell_62 ⟨(by show 0 + x5 + x13 + x20 + x28 + x35 ≤ mc_r; omega), (by show 0 + x6 + x14 + x21 + x29 + x36 ≤ ms_r; omega)⟩) hP hD hS hA [4, 5] [0, 1, 2, 3] [0, 1, 2, 3, 4, 5] rfl rfl (by decide) (by decide) (by decide) (fun _ => rfl) (fun q38 H locs hP hD hS => ?_)
    have hP : va_P D vwCl (wCS ca ca1 ca2 ca3 sa cI cZ cB cC cn cpu cco cwe sco sml x32 q38 x33 x34) H := hP
    have hD : va_D A (wCS ca ca1 ca2 ca3 sa cI cZ cB cC cn cpu cco cwe sco sml x32 q38 x33 x34) := hD
    refine lv_pop hx hb dK3_tell_65 rfl ?_
    refine lv_aload_n hx hb dK3_tell_66 rfl (lv_at hl 2 rfl) ?_
    refine lv_aload_n hx hb dK3_tell_67 rfl (lv_at hl 0 rfl) ?_
    refine va_get (D := D) (ci := 3) (v := .ref ca2) (C := RK3) (T := TK3) (N := 4) hx hb hts inK3b hown hK hP 0 rfl rfl 1 (by decide) (hts _ (up wdt1_80)) (fun _ h9 => h9) rfl dK3_tell_68 ?_
    refine lv_iload_n hx hb dK3_tell_71 rfl (lv_at hl 1 rfl) ?_
    obtain ⟨x39, ex39, hm⟩ := bd1_s hm
    obtain ⟨hix39, ex39⟩ := rd_s ex39
    refine va_iald hx hb hK hP 2 0 rfl rfl hix39 dK3_tell_72 ?_
    refine topi ex39 ?_
    refine lv_bipush (v := 12) hx hb dK3_tell_73 (by decide) ?_
    refine lv_irem hx hb dK3_tell_75 (by decide) ?_
    obtain ⟨x40, x41, x42, x43, x44, ec45, hm⟩ := bd5_s hm
    obtain ⟨mcec45, msec45, hm, hcec45, hsec45⟩ := wa3_s hm
    have hPc := hP.sub (ws' := (wS sa cI cZ cB cC sco sml x32 q38 x33 x34)) [4, 5] rfl
    have hDc := hD.sub (ws' := (wS sa cI cZ cB cC sco sml x32 q38 x33 x34)) [4, 5] (by decide) rfl
    have hFc := va_free (wc := (wS sa cI cZ cB cC sco sml x32 q38 x33 x34)) hD hS hA [4, 5] rfl
    refine k_callrdc (wr := [(ca, .inr (3, [.ref ca1, .ref ca2, .ref ca3, .int cn])), (ca1, .inl (cZ, 12, .inl cpu)), (ca2, .inl (cI, 12, .inl cco)), (ca3, .inl (cI, 12, .inl cwe))]) (w1 := fun u => (wS sa cI cZ cB cC sco sml x40 u x41 x42)) (ws' := fun u => (wCS ca ca1 ca2 ca3 sa cI cZ cB cC cn cpu cco cwe sco sml x40 u x41 x42)) (va_runV (As := [.int (x39 - x39 / 12 * 12)]) (rest := []) ⟨hx, hb, hml, hown, hts⟩ (kK6_append_ILStringBuilder l D cI cZ cB cC H.size sa sco sml x32 q38 x33 x34 (x39 - x39 / 12 * 12) x40 x41 x42 x43 x44 ec45) (cwV 1 hts (gdV2 (up wdt3_116) (up wdt3_117) (up wdt3_118) (up wdt1_7) gzK6_append_ILStringBuilder) rfl rfl rfl (by decide +kernel) ⟨Nat.le_of_ble_eq_true rfl, Nat.le_of_ble_eq_true rfl⟩) ⟨PrE0_blind, va_recv hK hPc (ci := 6) (q0 := 0) rfl rfl, fun U hU hW => ⟨rfl, Pr_at hK hN hPc hDc hU hW, EN_at hE hS hFc hU hW⟩⟩ rfl rfl hl.1 rfl (lv_room (Nat.le_of_ble_eq_true rfl)) dK3_tell_76 ⟨(by show 0 + x5 + x13 + x20 + x28 + x35 + x43 ≤ mc_r; omega), (by show 0 + x6 + x14 + x21 + x29 + x36 + x44 ≤ ms_r; omega)⟩) hP hD hS hA [4, 5] [0, 1, 2, 3] [0, 1, 2, 3, 4, 5] rfl rfl (by decide) (by decide) (by decide) (fun _ => rfl) (fun q46 H locs hP hD hS => ?_)
    have hP : va_P D vwCl (wCS ca ca1 ca2 ca3 sa cI cZ cB cC cn cpu cco cwe sco sml x40 q46 x41 x42) H := hP
    have hD : va_D A (wCS ca ca1 ca2 ca3 sa cI cZ cB cC cn cpu cco cwe sco sml x40 q46 x41 x42) := hD
    refine lv_pop hx hb dK3_tell_79 rfl ?_
    replace hm := Option.some.inj hm
    simp only [Prod.mk.injEq] at hm
    obtain ⟨rfl, rfl, rfl, rfl, rfl⟩ := hm
    refine W.widen (k := mc_r) (n := ms_r) (by omega) (by omega) ?_
    exact k_retvd hx hb hr hlocks (u := q46) hP hD hS dK3_tell_80
  · replace hm := iff_ hm hc
    refine va_ldcS hx hb hown hkr1 dK3_tell_10 ?_
    refine lv_goto (tgt := 17) hx hb dK3_tell_12 (by decide) ?_
    obtain ⟨x47, x48, x49, x50, x51, ec52, hm⟩ := bd5_s hm
    obtain ⟨mcec52, msec52, hm, hcec52, hsec52⟩ := wa3_s hm
    have hPc := hP.sub (ws' := (wS sa cI cZ cB cC sco sml sct s_ad sn sb)) [4, 5] rfl
    have hDc := hD.sub (ws' := (wS sa cI cZ cB cC sco sml sct s_ad sn sb)) [4, 5] (by decide) rfl
    have hFc := va_free (wc := (wS sa cI cZ cB cC sco sml sct s_ad sn sb)) hD hS hA [4, 5] rfl
    refine k_callrdc (wr := [(ca, .inr (3, [.ref ca1, .ref ca2, .ref ca3, .int cn])), (ca1, .inl (cZ, 12, .inl cpu)), (ca2, .inl (cI, 12, .inl cco)), (ca3, .inl (cI, 12, .inl cwe))]) (w1 := fun u => (wS sa cI cZ cB cC sco sml x47 u x48 x49)) (ws' := fun u => (wCS ca ca1 ca2 ca3 sa cI cZ cB cC cn cpu cco cwe sco sml x47 u x48 x49)) (va_runV (As := [.ref ka1]) (rest := []) ⟨hx, hb, hml, hown, hts⟩ (kK6_append_LStringLStringBuilder l D cI cZ cB cC H.size sa sco sml sct s_ad sn sb ka1 kv1 4 ktx1 x47 x48 x49 x50 x51 ec52) (cwV 1 hts (gdV2 (up wdt3_115) (up wdt3_30) (up wdt3_31) (up wdt1_7) gzK6_append_LStringLStringBuilder) rfl rfl rfl (by decide +kernel) ⟨Nat.le_of_ble_eq_true rfl, Nat.le_of_ble_eq_true rfl⟩) ⟨PrE1_blind, va_recv hK hPc (ci := 6) (q0 := 0) rfl rfl, fun U hU hW => ⟨rfl, Pr_at hK hN hPc hDc hU hW, EN_at hE hS hFc hU hW, StrK_at hk1 hS hFc hU hW⟩⟩ rfl rfl hl.1 rfl (lv_room (Nat.le_of_ble_eq_true rfl)) dK3_tell_17 ⟨(by show 0 + x50 ≤ mc_r; omega), (by show 0 + x51 ≤ ms_r; omega)⟩) hP hD hS hA [4, 5] [0, 1, 2, 3] [0, 1, 2, 3, 4, 5] rfl rfl (by decide) (by decide) (by decide) (fun _ => rfl) (fun q53 H locs hP hD hS => ?_)
    have hP : va_P D vwCl (wCS ca ca1 ca2 ca3 sa cI cZ cB cC cn cpu cco cwe sco sml x47 q53 x48 x49) H := hP
    have hD : va_D A (wCS ca ca1 ca2 ca3 sa cI cZ cB cC cn cpu cco cwe sco sml x47 q53 x48 x49) := hD
    refine lv_pop hx hb dK3_tell_20 rfl ?_
    refine lv_aload_n hx hb dK3_tell_21 rfl (lv_at hl 2 rfl) ?_
    refine lv_aload_n hx hb dK3_tell_22 rfl (lv_at hl 0 rfl) ?_
    refine va_get (D := D) (ci := 3) (v := .ref ca2) (C := RK3) (T := TK3) (N := 4) hx hb hts inK3b hown hK hP 0 rfl rfl 1 (by decide) (hts _ (up wdt1_80)) (fun _ h9 => h9) rfl dK3_tell_23 ?_
    refine lv_iload_n hx hb dK3_tell_26 rfl (lv_at hl 1 rfl) ?_
    obtain ⟨x54, ex54, hm⟩ := bd1_s hm
    obtain ⟨hix54, ex54⟩ := rd_s ex54
    refine va_iald hx hb hK hP 2 0 rfl rfl hix54 dK3_tell_27 ?_
    refine topi ex54 ?_
    refine lv_bipush (v := 72) hx hb dK3_tell_28 (by decide) ?_
    refine lv_idiv hx hb dK3_tell_30 (by decide) ?_
    obtain ⟨x55, x56, x57, x58, x59, ec60, hm⟩ := bd5_s hm
    obtain ⟨mcec60, msec60, hm, hcec60, hsec60⟩ := wa3_s hm
    have hPc := hP.sub (ws' := (wS sa cI cZ cB cC sco sml x47 q53 x48 x49)) [4, 5] rfl
    have hDc := hD.sub (ws' := (wS sa cI cZ cB cC sco sml x47 q53 x48 x49)) [4, 5] (by decide) rfl
    have hFc := va_free (wc := (wS sa cI cZ cB cC sco sml x47 q53 x48 x49)) hD hS hA [4, 5] rfl
    refine k_callrdc (wr := [(ca, .inr (3, [.ref ca1, .ref ca2, .ref ca3, .int cn])), (ca1, .inl (cZ, 12, .inl cpu)), (ca2, .inl (cI, 12, .inl cco)), (ca3, .inl (cI, 12, .inl cwe))]) (w1 := fun u => (wS sa cI cZ cB cC sco sml x55 u x56 x57)) (ws' := fun u => (wCS ca ca1 ca2 ca3 sa cI cZ cB cC cn cpu cco cwe sco sml x55 u x56 x57)) (va_runV (As := [.int (x54 / 72)]) (rest := []) ⟨hx, hb, hml, hown, hts⟩ (kK6_append_ILStringBuilder l D cI cZ cB cC H.size sa sco sml x47 q53 x48 x49 (x54 / 72) x55 x56 x57 x58 x59 ec60) (cwV 1 hts (gdV2 (up wdt3_116) (up wdt3_117) (up wdt3_118) (up wdt1_7) gzK6_append_ILStringBuilder) rfl rfl rfl (by decide +kernel) ⟨Nat.le_of_ble_eq_true rfl, Nat.le_of_ble_eq_true rfl⟩) ⟨PrE0_blind, va_recv hK hPc (ci := 6) (q0 := 0) rfl rfl, fun U hU hW => ⟨rfl, Pr_at hK hN hPc hDc hU hW, EN_at hE hS hFc hU hW⟩⟩ rfl rfl hl.1 rfl (lv_room (Nat.le_of_ble_eq_true rfl)) dK3_tell_31 ⟨(by show 0 + x50 + x58 ≤ mc_r; omega), (by show 0 + x51 + x59 ≤ ms_r; omega)⟩) hP hD hS hA [4, 5] [0, 1, 2, 3] [0, 1, 2, 3, 4, 5] rfl rfl (by decide) (by decide) (by decide) (fun _ => rfl) (fun q61 H locs hP hD hS => ?_)
    have hP : va_P D vwCl (wCS ca ca1 ca2 ca3 sa cI cZ cB cC cn cpu cco cwe sco sml x55 q61 x56 x57) H := hP
    have hD : va_D A (wCS ca ca1 ca2 ca3 sa cI cZ cB cC cn cpu cco cwe sco sml x55 q61 x56 x57) := hD
    refine lv_pop hx hb dK3_tell_34 rfl ?_
    refine lv_aload_n hx hb dK3_tell_35 rfl (lv_at hl 2 rfl) ?_
    refine lv_bipush (v := 32) hx hb dK3_tell_36 (by decide) ?_
    obtain ⟨x62, x63, x64, x65, x66, ec67, hm⟩ := bd5_s hm
    obtain ⟨mcec67, msec67, hm, hcec67, hsec67⟩ := wa3_s hm
    have hPc := hP.sub (ws' := (wS sa cI cZ cB cC sco sml x55 q61 x56 x57)) [4, 5] rfl
    have hDc := hD.sub (ws' := (wS sa cI cZ cB cC sco sml x55 q61 x56 x57)) [4, 5] (by decide) rfl
    have hFc := va_free (wc := (wS sa cI cZ cB cC sco sml x55 q61 x56 x57)) hD hS hA [4, 5] rfl
    refine k_callrdc (wr := [(ca, .inr (3, [.ref ca1, .ref ca2, .ref ca3, .int cn])), (ca1, .inl (cZ, 12, .inl cpu)), (ca2, .inl (cI, 12, .inl cco)), (ca3, .inl (cI, 12, .inl cwe))]) (w1 := fun u => (wS sa cI cZ cB cC sco sml x62 u x63 x64)) (ws' := fun u => (wCS ca ca1 ca2 ca3 sa cI cZ cB cC cn cpu cco cwe sco sml x62 u x63 x64)) (va_runV (As := [.int 32]) (rest := []) ⟨hx, hb, hml, hown, hts⟩ (kK6_append_CLStringBuilder l D cI cZ cB cC H.size sa sco sml x55 q61 x56 x57 32 x62 x63 x64 x65 x66 ec67) (cwV 1 hts (gdV2 (up wdt3_141) (up wdt3_142) (up wdt3_143) (up wdt1_7) gzK6_append_CLStringBuilder) rfl rfl rfl (by decide +kernel) ⟨Nat.le_of_ble_eq_true rfl, Nat.le_of_ble_eq_true rfl⟩) ⟨PrE0_blind, va_recv hK hPc (ci := 6) (q0 := 0) rfl rfl, fun U hU hW => ⟨rfl, Pr_at hK hN hPc hDc hU hW, EN_at hE hS hFc hU hW⟩⟩ rfl rfl hl.1 rfl (lv_room (Nat.le_of_ble_eq_true rfl)) dK3_tell_38 ⟨(by show 0 + x50 + x58 + x65 ≤ mc_r; omega), (by show 0 + x51 + x59 + x66 ≤ ms_r; omega)⟩) hP hD hS hA [4, 5] [0, 1, 2, 3] [0, 1, 2, 3, 4, 5] rfl rfl (by decide) (by decide) (by decide) (fun _ => rfl) (fun q68 H locs hP hD hS => ?_)
    have hP : va_P D vwCl (wCS ca ca1 ca2 ca3 sa cI cZ cB cC cn cpu cco cwe sco sml x62 q68 x63 x64) H := hP
    have hD : va_D A (wCS ca ca1 ca2 ca3 sa cI cZ cB cC cn cpu cco cwe sco sml x62 q68 x63 x64) := hD
    refine lv_pop hx hb dK3_tell_41 rfl ?_
    refine lv_aload_n hx hb dK3_tell_42 rfl (lv_at hl 2 rfl) ?_
    refine lv_aload_n hx hb dK3_tell_43 rfl (lv_at hl 0 rfl) ?_
    refine va_get (D := D) (ci := 3) (v := .ref ca2) (C := RK3) (T := TK3) (N := 4) hx hb hts inK3b hown hK hP 0 rfl rfl 1 (by decide) (hts _ (up wdt1_80)) (fun _ h9 => h9) rfl dK3_tell_44 ?_
    refine lv_iload_n hx hb dK3_tell_47 rfl (lv_at hl 1 rfl) ?_
    obtain ⟨x69, ex69, hm⟩ := bd1_s hm
    obtain ⟨hix69, ex69⟩ := rd_s ex69
    refine va_iald hx hb hK hP 2 0 rfl rfl hix69 dK3_tell_48 ?_
    refine topi ex69 ?_
    refine lv_bipush (v := 12) hx hb dK3_tell_49 (by decide) ?_
    refine lv_idiv hx hb dK3_tell_51 (by decide) ?_
    refine lv_bipush (v := 6) hx hb dK3_tell_52 (by decide) ?_
    refine lv_irem hx hb dK3_tell_54 (by decide) ?_
    obtain ⟨x70, x71, x72, x73, x74, ec75, hm⟩ := bd5_s hm
    obtain ⟨mcec75, msec75, hm, hcec75, hsec75⟩ := wa3_s hm
    have hPc := hP.sub (ws' := (wS sa cI cZ cB cC sco sml x62 q68 x63 x64)) [4, 5] rfl
    have hDc := hD.sub (ws' := (wS sa cI cZ cB cC sco sml x62 q68 x63 x64)) [4, 5] (by decide) rfl
    have hFc := va_free (wc := (wS sa cI cZ cB cC sco sml x62 q68 x63 x64)) hD hS hA [4, 5] rfl
    refine k_callrdc (wr := [(ca, .inr (3, [.ref ca1, .ref ca2, .ref ca3, .int cn])), (ca1, .inl (cZ, 12, .inl cpu)), (ca2, .inl (cI, 12, .inl cco)), (ca3, .inl (cI, 12, .inl cwe))]) (w1 := fun u => (wS sa cI cZ cB cC sco sml x70 u x71 x72)) (ws' := fun u => (wCS ca ca1 ca2 ca3 sa cI cZ cB cC cn cpu cco cwe sco sml x70 u x71 x72)) (va_runV (As := [.int ((x69 / 12) - (x69 / 12) / 6 * 6)]) (rest := []) ⟨hx, hb, hml, hown, hts⟩ (kK6_append_ILStringBuilder l D cI cZ cB cC H.size sa sco sml x62 q68 x63 x64 ((x69 / 12) - (x69 / 12) / 6 * 6) x70 x71 x72 x73 x74 ec75) (cwV 1 hts (gdV2 (up wdt3_116) (up wdt3_117) (up wdt3_118) (up wdt1_7) gzK6_append_ILStringBuilder) rfl rfl rfl (by decide +kernel) ⟨Nat.le_of_ble_eq_true rfl, Nat.le_of_ble_eq_true rfl⟩) ⟨PrE0_blind, va_recv hK hPc (ci := 6) (q0 := 0) rfl rfl, fun U hU hW => ⟨rfl, Pr_at hK hN hPc hDc hU hW, EN_at hE hS hFc hU hW⟩⟩ rfl rfl hl.1 rfl (lv_room (Nat.le_of_ble_eq_true rfl)) dK3_tell_55 ⟨(by show 0 + x50 + x58 + x65 + x73 ≤ mc_r; omega), (by show 0 + x51 + x59 + x66 + x74 ≤ ms_r; omega)⟩) hP hD hS hA [4, 5] [0, 1, 2, 3] [0, 1, 2, 3, 4, 5] rfl rfl (by decide) (by decide) (by decide) (fun _ => rfl) (fun q76 H locs hP hD hS => ?_)
    have hP : va_P D vwCl (wCS ca ca1 ca2 ca3 sa cI cZ cB cC cn cpu cco cwe sco sml x70 q76 x71 x72) H := hP
    have hD : va_D A (wCS ca ca1 ca2 ca3 sa cI cZ cB cC cn cpu cco cwe sco sml x70 q76 x71 x72) := hD
    refine lv_pop hx hb dK3_tell_58 rfl ?_
    refine lv_aload_n hx hb dK3_tell_59 rfl (lv_at hl 2 rfl) ?_
    refine lv_bipush (v := 32) hx hb dK3_tell_60 (by decide) ?_
    obtain ⟨x77, x78, x79, x80, x81, ec82, hm⟩ := bd5_s hm
    obtain ⟨mcec82, msec82, hm, hcec82, hsec82⟩ := wa3_s hm
    have hPc := hP.sub (ws' := (wS sa cI cZ cB cC sco sml x70 q76 x71 x72)) [4, 5] rfl
    have hDc := hD.sub (ws' := (wS sa cI cZ cB cC sco sml x70 q76 x71 x72)) [4, 5] (by decide) rfl
    have hFc := va_free (wc := (wS sa cI cZ cB cC sco sml x70 q76 x71 x72)) hD hS hA [4, 5] rfl
    refine k_callrdc (wr := [(ca, .inr (3, [.ref ca1, .ref ca2, .ref ca3, .int cn])), (ca1, .inl (cZ, 12, .inl cpu)), (ca2, .inl (cI, 12, .inl cco)), (ca3, .inl (cI, 12, .inl cwe))]) (w1 := fun u => (wS sa cI cZ cB cC sco sml x77 u x78 x79)) (ws' := fun u => (wCS ca ca1 ca2 ca3 sa cI cZ cB cC cn cpu cco cwe sco sml x77 u x78 x79)) (va_runV (As := [.int 32]) (rest := []) ⟨hx, hb, hml, hown, hts⟩ (kK6_append_CLStringBuilder l D cI cZ cB cC H.size sa sco sml x70 q76 x71 x72 32 x77 x78 x79 x80 x81 ec82) (cwV 1 hts (gdV2 (up wdt3_141) (up wdt3_142) (up wdt3_143) (up wdt1_7) gzK6_append_CLStringBuilder) rfl rfl rfl (by decide +kernel) ⟨Nat.le_of_ble_eq_true rfl, Nat.le_of_ble_eq_true rfl⟩) ⟨PrE0_blind, va_recv hK hPc (ci := 6) (q0 := 0) rfl rfl, fun U hU hW => ⟨rfl, Pr_at hK hN hPc hDc hU hW, EN_at hE hS hFc hU hW⟩⟩ rfl rfl hl.1 rfl (lv_room (Nat.le_of_ble_eq_true rfl)) dK3_tell_62 ⟨(by show 0 + x50 + x58 + x65 + x73 + x80 ≤ mc_r; omega), (by show 0 + x51 + x59 + x66 + x74 + x81 ≤ ms_r; omega)⟩) hP hD hS hA [4, 5] [0, 1, 2, 3] [0, 1, 2, 3, 4, 5] rfl rfl (by decide) (by decide) (by decide) (fun _ => rfl) (fun q83 H locs hP hD hS => ?_)
    have hP : va_P D vwCl (wCS ca ca1 ca2 ca3 sa cI cZ cB cC cn cpu cco cwe sco sml x77 q83 x78 x79) H := hP
    have hD : va_D A (wCS ca ca1 ca2 ca3 sa cI cZ cB cC cn cpu cco cwe sco sml x77 q83 x78 x79) := hD
    refine lv_pop hx hb dK3_tell_65 rfl ?_
    refine lv_aload_n hx hb dK3_tell_66 rfl (lv_at hl 2 rfl) ?_
    refine lv_aload_n hx hb dK3_tell_67 rfl (lv_at hl 0 rfl) ?_
    refine va_get (D := D) (ci := 3) (v := .ref ca2) (C := RK3) (T := TK3) (N := 4) hx hb hts inK3b hown hK hP 0 rfl rfl 1 (by decide) (hts _ (up wdt1_80)) (fun _ h9 => h9) rfl dK3_tell_68 ?_
    refine lv_iload_n hx hb dK3_tell_71 rfl (lv_at hl 1 rfl) ?_
    obtain ⟨x84, ex84, hm⟩ := bd1_s hm
    obtain ⟨hix84, ex84⟩ := rd_s ex84
    refine va_iald hx hb hK hP 2 0 rfl rfl hix84 dK3_tell_72 ?_
    refine topi ex84 ?_
    refine lv_bipush (v := 12) hx hb dK3_tell_73 (by decide) ?_
    refine lv_irem hx hb dK3_tell_75 (by decide) ?_
    obtain ⟨x85, x86, x87, x88, x89, ec90, hm⟩ := bd5_s hm
    obtain ⟨mcec90, msec90, hm, hcec90, hsec90⟩ := wa3_s hm
    have hPc := hP.sub (ws' := (wS sa cI cZ cB cC sco sml x77 q83 x78 x79)) [4, 5] rfl
    have hDc := hD.sub (ws' := (wS sa cI cZ cB cC sco sml x77 q83 x78 x79)) [4, 5] (by decide) rfl
    have hFc := va_free (wc := (wS sa cI cZ cB cC sco sml x77 q83 x78 x79)) hD hS hA [4, 5] rfl
    refine k_callrdc (wr := [(ca, .inr (3, [.ref ca1, .ref ca2, .ref ca3, .int cn])), (ca1, .inl (cZ, 12, .inl cpu)), (ca2, .inl (cI, 12, .inl cco)), (ca3, .inl (cI, 12, .inl cwe))]) (w1 := fun u => (wS sa cI cZ cB cC sco sml x85 u x86 x87)) (ws' := fun u => (wCS ca ca1 ca2 ca3 sa cI cZ cB cC cn cpu cco cwe sco sml x85 u x86 x87)) (va_runV (As := [.int (x84 - x84 / 12 * 12)]) (rest := []) ⟨hx, hb, hml, hown, hts⟩ (kK6_append_ILStringBuilder l D cI cZ cB cC H.size sa sco sml x77 q83 x78 x79 (x84 - x84 / 12 * 12) x85 x86 x87 x88 x89 ec90) (cwV 1 hts (gdV2 (up wdt3_116) (up wdt3_117) (up wdt3_118) (up wdt1_7) gzK6_append_ILStringBuilder) rfl rfl rfl (by decide +kernel) ⟨Nat.le_of_ble_eq_true rfl, Nat.le_of_ble_eq_true rfl⟩) ⟨PrE0_blind, va_recv hK hPc (ci := 6) (q0 := 0) rfl rfl, fun U hU hW => ⟨rfl, Pr_at hK hN hPc hDc hU hW, EN_at hE hS hFc hU hW⟩⟩ rfl rfl hl.1 rfl (lv_room (Nat.le_of_ble_eq_true rfl)) dK3_tell_76 ⟨(by show 0 + x50 + x58 + x65 + x73 + x80 + x88 ≤ mc_r; omega), (by show 0 + x51 + x59 + x66 + x74 + x81 + x89 ≤ ms_r; omega)⟩) hP hD hS hA [4, 5] [0, 1, 2, 3] [0, 1, 2, 3, 4, 5] rfl rfl (by decide) (by decide) (by decide) (fun _ => rfl) (fun q91 H locs hP hD hS => ?_)
    have hP : va_P D vwCl (wCS ca ca1 ca2 ca3 sa cI cZ cB cC cn cpu cco cwe sco sml x85 q91 x86 x87) H := hP
    have hD : va_D A (wCS ca ca1 ca2 ca3 sa cI cZ cB cC cn cpu cco cwe sco sml x85 q91 x86 x87) := hD
    refine lv_pop hx hb dK3_tell_79 rfl ?_
    replace hm := Option.some.inj hm
    simp only [Prod.mk.injEq] at hm
    obtain ⟨rfl, rfl, rfl, rfl, rfl⟩ := hm
    refine W.widen (k := mc_r) (n := ms_r) (by omega) (by omega) ?_
    exact k_retvd hx hb hr hlocks (u := q91) hP hD hS dK3_tell_80
def mK0_sentence_A26 (sbco : Int32) (x3 : Int32) (sbctx26 : Int32) (sbnx26 : Nat) (sbbx26 : Nat → Int32) (kcx26 : Nat) (ksx26 : Nat) : Option (Int32 × Int32 × Int32 × Nat × (Nat → Int32)) :=
  bd5 (mK6_append_CLStringBuilder sbco sbctx26 sbnx26 sbbx26 46) fun x6 x7 x8 x9 x10 => bd1 (some (kcx26 + x9)) fun x12 => bd1 (some (ksx26 + x10)) fun x13 => bd0 (bud 8 2000 x12 x13) <| bd1 (mK6_length x6) fun x15 => bd0 (bud 8 2000 x12 x13) <| bd0 (bud 8 2000 x12 x13) <| some (x15, x3, x6, x7, x8)
def mK0_sentence_B26 (chn : Int32) (chpu : Nat → Int32) (chco : Nat → Int32) (sbco : Int32) (x1 : Int32) (kx26 : Int32 → Nat → (Nat → Int32) → Nat → Nat → (Option (Int32 × Int32 × Int32 × Nat × (Nat → Int32)))) (rc26 : Int32 → Int32 → Nat → (Nat → Int32) → Nat → Nat → (Option (Int32 × Int32 × Int32 × Nat × (Nat → Int32)))) (i3l26 : Int32) (sbctl26 : Int32) (sbnl26 : Nat) (sbbl26 : Nat → Int32) (kcl26 : Nat) (ksl26 : Nat) : Option (Int32 × Int32 × Int32 × Nat × (Nat → Int32)) :=
  if chn ≤ i3l26 then
  (kx26 sbctl26 sbnl26 sbbl26 kcl26 ksl26)
  else
  (bd1 (mK0_hasMember x1 i3l26) fun x17 => bd0 (bud 8 2000 kcl26 ksl26) <| if x17 = 0 then
    (bd1 (some (i3l26 + 1)) fun x19 => rc26 x19 sbctl26 sbnl26 sbbl26 kcl26 ksl26)
    else
    (bd1 (mK6_length sbctl26) fun x20 => bd0 (bud 8 2000 kcl26 ksl26) <| if x20 ≤ 0 then
      (bd5 (mK3_tell chpu chco sbco sbctl26 sbnl26 sbbl26 i3l26) fun x22 x23 x24 x25 x26 => bd1 (some (kcl26 + x25)) fun x28 => bd1 (some (ksl26 + x26)) fun x29 => bd0 (bud 8 2000 x28 x29) <| bd1 (some (i3l26 + 1)) fun x31 => rc26 x31 x22 x23 x24 x28 x29)
      else
      (bd5 (mK6_append_LStringLStringBuilder sbco sbctl26 sbnl26 sbbl26 2 ktx0) fun x32 x33 x34 x35 x36 => bd1 (some (kcl26 + x35)) fun x38 => bd1 (some (ksl26 + x36)) fun x39 => bd0 (bud 8 2000 x38 x39) <| bd5 (mK3_tell chpu chco sbco x32 x33 x34 i3l26) fun x41 x42 x43 x44 x45 => bd1 (some (x38 + x44)) fun x47 => bd1 (some (x39 + x45)) fun x48 => bd0 (bud 8 2000 x47 x48) <| bd1 (some (i3l26 + 1)) fun x50 => rc26 x50 x41 x42 x43 x47 x48)))
def mK0_sentence_L26 (chn : Int32) (chpu : Nat → Int32) (chco : Nat → Int32) (sbco : Int32) (x1 : Int32) (kx26 : Int32 → Nat → (Nat → Int32) → Nat → Nat → (Option (Int32 × Int32 × Int32 × Nat × (Nat → Int32)))) : Nat → Int32 → Int32 → Nat → (Nat → Int32) → Nat → Nat → (Option (Int32 × Int32 × Int32 × Nat × (Nat → Int32)))
  | 0, _, _, _, _, _, _ => none
  | n + 1, i3l26, sbctl26, sbnl26, sbbl26, kcl26, ksl26 => mK0_sentence_B26 chn chpu chco sbco x1 kx26 (mK0_sentence_L26 chn chpu chco sbco x1 kx26 n) i3l26 sbctl26 sbnl26 sbbl26 kcl26 ksl26
def mK0_sentence (chn : Int32) (chpu : Nat → Int32) (chco : Nat → Int32) (fon : Int32) (fose : Nat → Int32) (sbco : Int32) (sbml : Int32) (sbct : Int32) (sbn : Nat) (sbb : Nat → Int32) (v1 : Int32) : Option (Int32 × Int32 × Int32 × Nat × (Nat → Int32)) :=
  bd1 (mK4_at fon fose v1) fun x1 => bd0 (bud 8 2000 0 0) <| if x1 = 0 then
  (bd0 (bud 8 2000 0 0) <| some ((-2), sbml, sbct, sbn, sbb))
  else
  (bd2 (mK6_setLength sbco sbml sbct sbn 0) fun x3 x4 => bd0 (bud 8 2000 0 0) <| mK0_sentence_L26 chn chpu chco sbco x1 (mK0_sentence_A26 sbco x3) 5000 0 x4 sbn sbb 0 0)
abbrev rmK0_sentence : Room := { frames := 8, cells := 8, slots := 2000, locals := 288 }
set_option maxHeartbeats 4000000 in
set_option maxRecDepth 100000 in
theorem kK0_sentence (l : Launch) (D : va_G) (cI cZ cB cC : ClassId) (sz : Nat) (oa : Nat) (tra : Nat) (tra1 : Nat) (tra2 : Nat) (tra3 : Nat) (tia : Nat) (tia1 : Nat) (tia2 : Nat) (tia3 : Nat) (rua : Nat) (rua1 : Nat) (rua2 : Nat) (rua3 : Nat) (rua4 : Nat) (cha : Nat) (cha1 : Nat) (cha2 : Nat) (cha3 : Nat) (foa : Nat) (foa1 : Nat) (foa2 : Nat) (sba : Nat) (ocs : Int32) (oal : Int32) (olt : Int32) (ols : Int32) (trso : Int32) (trob : Nat → Int32) (trme : Nat → Int32) (trwi : Nat → Int32) (tiso : Int32) (tiob : Nat → Int32) (time : Nat → Int32) (tiwi : Nat → Int32) (run : Int32) (ruki : Nat → Int32) (ruta : Nat → Int32) (rupr : Nat → Int32) (runu : Nat → Int32) (chn : Int32) (chpu : Nat → Int32) (chco : Nat → Int32) (chwe : Nat → Int32) (fon : Int32) (fose : Nat → Int32) (fosu : Nat → Int32) (sbco : Int32) (sbml : Int32) (sbct : Int32) (sb_ad : Nat) (sbn : Nat) (sbb : Nat → Int32) (v1 : Int32) (r0 : Int32) (sbml_r : Int32) (sbct_r : Int32) (sbn_r : Nat) (sbb_r : Nat → Int32) (hm : mK0_sentence chn chpu chco fon fose sbco sbml sbct sbn sbb v1 = some (r0, sbml_r, sbct_r, sbn_r, sbb_r)) : Met l yK0_sentence wzK0_sentence rmK0_sentence (va_Pc [.ref oa, .int v1] (PrE0 D (tyL cI cZ cB cC) sz (wMS oa tra tra1 tra2 tra3 tia tia1 tia2 tia3 rua rua1 rua2 rua3 rua4 cha cha1 cha2 cha3 foa foa1 foa2 sba cI cZ cB cC ocs oal olt ols trso trob trme trwi tiso tiob time tiwi run ruki ruta rupr runu chn chpu chco chwe fon fose fosu sbco sbml sbct sb_ad sbn sbb))) (QId D (va_A (wMS oa tra tra1 tra2 tra3 tia tia1 tia2 tia3 rua rua1 rua2 rua3 rua4 cha cha1 cha2 cha3 foa foa1 foa2 sba cI cZ cB cC ocs oal olt ols trso trob trme trwi tiso tiob time tiwi run ruki ruta rupr runu chn chpu chco chwe fon fose fosu sbco sbml sbct sb_ad sbn sbb) sz) r0 (fun u => (wMS oa tra tra1 tra2 tra3 tia tia1 tia2 tia3 rua rua1 rua2 rua3 rua4 cha cha1 cha2 cha3 foa foa1 foa2 sba cI cZ cB cC ocs oal olt ols trso trob trme trwi tiso tiob time tiwi run ruki ruta rupr runu chn chpu chco chwe fon fose fosu sbco sbml_r sbct_r u sbn_r sbb_r))) 8 2000 (va_A (wMS oa tra tra1 tra2 tra3 tia tia1 tia2 tia3 rua rua1 rua2 rua3 rua4 cha cha1 cha2 cha3 foa foa1 foa2 sba cI cZ cB cC ocs oal olt ols trso trob trme trwi tiso tiob time tiwi run ruki ruta rupr runu chn chpu chco chwe fon fose fosu sbco sbml sbct sb_ad sbn sbb) sz) := by
  refine Met.ofW (cc := cK0_sentence) (maxL := 4) (ret := (some .int)) (by decide) rfl ?_
  intro p e s m args below meth c s₁ B hml hv
  obtain ⟨rfl, ⟨hsz, hP, hK, hD0, hN⟩, hE⟩ := hv
  have hx := B.exec
  have hb := B.bytes
  have hr := B.returns
  have hts := htsB (atoms_spec (ws := wzK0_sentence) B.pre)
  have hown : s.vm.findClass RK0 = some m.cls := findClass_of_methodNamed B.named
  have hlocks := B.notSynchronized
  subst hsz
  have hD := hD0.self (sz := s.heap.size)
  generalize hAe : va_A (wMS oa tra tra1 tra2 tra3 tia tia1 tia2 tia3 rua rua1 rua2 rua3 rua4 cha cha1 cha2 cha3 foa foa1 foa2 sba cI cZ cB cC ocs oal olt ols trso trob trme trwi tiso tiob time tiwi run ruki ruta rupr runu chn chpu chco chwe fon fose fosu sbco sbml sbct sb_ad sbn sbb) s.heap.size = A at hD hE ⊢
  have hA : ∀ q : Nat, s.heap.size ≤ q → A q := fun q h => by rw [← hAe]; exact Or.inr h
  refine kstart (A := A) hP (fun H hP hS => ?_)
  have hl := lv_entry ([.ref oa, .int v1]) (n := 4) (Nat.le_of_ble_eq_true rfl)
  rw [lg_entry_eq]
  generalize (lg_sl ([.ref oa, .int v1]) ++ List.replicate (4 - (lg_sl ([.ref oa, .int v1])).length) Slot.unset).toArray = ls at hl ⊢
  have hl : lv_has ls 4 [(0, .ref oa), (1, .int v1)] := hl
  unfold mK0_sentence at hm
  obtain ⟨hE0z, ⟨dg1, hE1z, hE1t⟩, ⟨dg2, hE2z, hE2t⟩, hE4, ⟨ka0, kv0, hkr0, hk0⟩, ⟨ka1, kv1, hkr1, hk1⟩, ⟨ka2, kv2, hkr2, hk2⟩⟩ := id hE
  refine lv_aload_n hx hb dK0_sentence_0 rfl (lv_at hl 0 rfl) ?_
  refine va_get (D := D) (ci := 0) (v := .ref foa) (C := RK0) (T := TK0) (N := 10) hx hb hts inK0b hown hK hP 0 rfl rfl 4 (by decide) (hts _ (up wdt1_147)) (fun _ h9 => h9) rfl dK0_sentence_1 ?_
  refine lv_iload_n hx hb dK0_sentence_4 rfl (lv_at hl 1 rfl) ?_
  obtain ⟨x1, ec2, hm⟩ := bd1_s hm
  obtain ⟨eb, hm⟩ := bd0_s hm
  have hbu := bud_s eb
  have hPc := hP.sub (ws' := (wF foa foa1 foa2 cI cZ cB cC fon fose fosu)) [18, 19, 20] rfl
  have hDc := hD.sub (ws' := (wF foa foa1 foa2 cI cZ cB cC fon fose fosu)) [18, 19, 20] (by decide) rfl
  refine k_calli (wr := [(oa, .inr (0, [.ref tra, .ref tia, .ref rua, .ref cha, .ref foa, .ref sba, .int ocs, .int oal, .int olt, .int ols])), (tra, .inr (1, [.ref tra1, .ref tra2, .ref tra3, .int trso])), (tra1, .inl (cI, 72, .inl trob)), (tra2, .inl (cI, 12, .inl trme)), (tra3, .inl (cI, 12, .inl trwi)), (tia, .inr (1, [.ref tia1, .ref tia2, .ref tia3, .int tiso])), (tia1, .inl (cI, 72, .inl tiob)), (tia2, .inl (cI, 12, .inl time)), (tia3, .inl (cI, 12, .inl tiwi)), (rua, .inr (2, [.ref rua1, .ref rua2, .ref rua3, .ref rua4, .int run])), (rua1, .inl (cI, 10, .inl ruki)), (rua2, .inl (cI, 10, .inl ruta)), (rua3, .inl (cI, 10, .inl rupr)), (rua4, .inl (cI, 10, .inl runu)), (cha, .inr (3, [.ref cha1, .ref cha2, .ref cha3, .int chn])), (cha1, .inl (cZ, 12, .inl chpu)), (cha2, .inl (cI, 12, .inl chco)), (cha3, .inl (cI, 12, .inl chwe)), (sba, .inr (6, [.ref sb_ad, .int sbco, .int sbml, .int sbct])), (sb_ad, .inl (cB, sbn, .inl sbb))]) (w1 := (wF foa foa1 foa2 cI cZ cB cC fon fose fosu)) (ws' := (wMS oa tra tra1 tra2 tra3 tia tia1 tia2 tia3 rua rua1 rua2 rua3 rua4 cha cha1 cha2 cha3 foa foa1 foa2 sba cI cZ cB cC ocs oal olt ols trso trob trme trwi tiso tiob time tiwi run ruki ruta rupr runu chn chpu chco chwe fon fose fosu sbco sbml sbct sb_ad sbn sbb)) (va_runV (As := [.int v1]) (rest := []) ⟨hx, hb, hml, hown, hts⟩ (kK4_at l D cI cZ cB cC H.size foa foa1 foa2 fon fose fosu v1 x1 ec2) (cwV 1 hts (gdV2 (up wdt2_168) (up wdt2_169) (up wdt2_170) (up wdt1_5) (gup gkK4_at)) rfl rfl rfl (by decide +kernel) ⟨Nat.le_of_ble_eq_true rfl, Nat.le_of_ble_eq_true rfl⟩) ⟨Pr_blind, va_recv hK hPc (ci := 4) (q0 := 0) rfl rfl, fun U hU hW => ⟨rfl, Pr_at hK hN hPc hDc hU hW⟩⟩ rfl rfl hl.1 rfl (lv_room (Nat.le_of_ble_eq_true rfl)) dK0_sentence_5 ⟨(by show 0 + 0 ≤ 8; omega), (by show 0 + 0 ≤ 2000; omega)⟩) hP hD hS hA [18, 19, 20] [0, 1, 2, 3, 4, 5, 6, 7, 8, 9, 10, 11, 12, 13, 14, 15, 16, 17, 21, 22] [0, 1, 2, 3, 4, 5, 6, 7, 8, 9, 10, 11, 12, 13, 14, 15, 16, 17, 20, 21, 22, 18, 19] rfl rfl (by decide) (by decide) (by decide) rfl (fun H locs hP hD hS => ?_)
  refine lv_istore_n (lv' := [(2, .int x1), (0, .ref oa), (1, .int v1)]) hx hb dK0_sentence_8 rfl hl (by decide) rfl (fun ls hl => ?_)
  refine lv_iload_n hx hb dK0_sentence_9 rfl (lv_at hl 0 rfl) ?_
  refine lv_if_ne (tgt := 16) hx hb dK0_sentence_10 (by decide) (fun hc => ?_) (fun hc => ?_)
  · replace hm := iff_ hm hc
    refine lv_aload_n hx hb dK0_sentence_16 rfl (lv_at hl 1 rfl) ?_
    refine va_get (D := D) (ci := 0) (v := .ref sba) (C := RK0) (T := TK0) (N := 10) hx hb hts inK0b hown hK hP 0 rfl rfl 5 (by decide) (hts _ (up wdt1_148)) (fun _ h9 => h9) rfl dK0_sentence_17 ?_
    refine lv_iconst (v := 0) hx hb dK0_sentence_20 (by decide) ?_
    obtain ⟨x3, x4, ec5, hm⟩ := bd2_s hm
    obtain ⟨eb, hm⟩ := bd0_s hm
    have hbu := bud_s eb
    have hPc := hP.sub (ws' := (wS sba cI cZ cB cC sbco sbml sbct sb_ad sbn sbb)) [21, 22] rfl
    have hDc := hD.sub (ws' := (wS sba cI cZ cB cC sbco sbml sbct sb_ad sbn sbb)) [21, 22] (by decide) rfl
    have hFc := va_free (wc := (wS sba cI cZ cB cC sbco sbml sbct sb_ad sbn sbb)) hD hS hA [21, 22] rfl
    refine k_callv (wr := [(oa, .inr (0, [.ref tra, .ref tia, .ref rua, .ref cha, .ref foa, .ref sba, .int ocs, .int oal, .int olt, .int ols])), (tra, .inr (1, [.ref tra1, .ref tra2, .ref tra3, .int trso])), (tra1, .inl (cI, 72, .inl trob)), (tra2, .inl (cI, 12, .inl trme)), (tra3, .inl (cI, 12, .inl trwi)), (tia, .inr (1, [.ref tia1, .ref tia2, .ref tia3, .int tiso])), (tia1, .inl (cI, 72, .inl tiob)), (tia2, .inl (cI, 12, .inl time)), (tia3, .inl (cI, 12, .inl tiwi)), (rua, .inr (2, [.ref rua1, .ref rua2, .ref rua3, .ref rua4, .int run])), (rua1, .inl (cI, 10, .inl ruki)), (rua2, .inl (cI, 10, .inl ruta)), (rua3, .inl (cI, 10, .inl rupr)), (rua4, .inl (cI, 10, .inl runu)), (cha, .inr (3, [.ref cha1, .ref cha2, .ref cha3, .int chn])), (cha1, .inl (cZ, 12, .inl chpu)), (cha2, .inl (cI, 12, .inl chco)), (cha3, .inl (cI, 12, .inl chwe)), (foa, .inr (4, [.ref foa1, .ref foa2, .int fon])), (foa1, .inl (cI, 30, .inl fose)), (foa2, .inl (cI, 30, .inl fosu))]) (w1 := (wS sba cI cZ cB cC sbco x3 x4 sb_ad sbn sbb)) (ws' := (wMS oa tra tra1 tra2 tra3 tia tia1 tia2 tia3 rua rua1 rua2 rua3 rua4 cha cha1 cha2 cha3 foa foa1 foa2 sba cI cZ cB cC ocs oal olt ols trso trob trme trwi tiso tiob time tiwi run ruki ruta rupr runu chn chpu chco chwe fon fose fosu sbco x3 x4 sb_ad sbn sbb)) (va_runV (As := [.int 0]) (rest := []) ⟨hx, hb, hml, hown, hts⟩ (kK6_setLength l D cI cZ cB cC H.size sba sbco sbml sbct sb_ad sbn sbb 0 x3 x4 ec5) (cwV 1 hts (gdV2 (up wdt2_205) (up wdt2_206) (up wdt2_207) (up wdt1_7) gzK6_setLength) rfl rfl rfl (by decide +kernel) ⟨Nat.le_of_ble_eq_true rfl, Nat.le_of_ble_eq_true rfl⟩) ⟨PrE0_blind, va_recv hK hPc (ci := 6) (q0 := 0) rfl rfl, fun U hU hW => ⟨rfl, Pr_at hK hN hPc hDc hU hW, EN_at hE hS hFc hU hW⟩⟩ rfl rfl hl.1 rfl (lv_room (Nat.le_of_ble_eq_true rfl)) dK0_sentence_21 ⟨(by show 0 + 0 ≤ 8; omega), (by show 0 + 0 ≤ 2000; omega)⟩) hP hD hS hA [21, 22] [0, 1, 2, 3, 4, 5, 6, 7, 8, 9, 10, 11, 12, 13, 14, 15, 16, 17, 18, 19, 20] [0, 1, 2, 3, 4, 5, 6, 7, 8, 9, 10, 11, 12, 13, 14, 15, 16, 17, 18, 19, 20, 21, 22] rfl rfl (by decide) (by decide) (by decide) rfl (fun H locs hP hD hS => ?_)
    refine lv_iconst (v := 0) hx hb dK0_sentence_24 (by decide) ?_
    refine lv_istore_n (lv' := [(3, .int 0), (2, .int x1), (0, .ref oa), (1, .int v1)]) hx hb dK0_sentence_25 rfl hl (by decide) rfl (fun ls hl => ?_)
    have lx26 : ∀ (sbctx26 : Int32) (sbnx26 : Nat) (sbbx26 : Nat → Int32) (kcx26 : Nat) (ksx26 : Nat) (sb_adx26 : Nat) (H : Heap) (locs : List Loc) (ls : Array Slot), mK0_sentence_A26 sbco x3 sbctx26 sbnx26 sbbx26 kcx26 ksx26 = some (r0, sbml_r, sbct_r, sbn_r, sbb_r) → va_P D vwCl (wMS oa tra tra1 tra2 tra3 tia tia1 tia2 tia3 rua rua1 rua2 rua3 rua4 cha cha1 cha2 cha3 foa foa1 foa2 sba cI cZ cB cC ocs oal olt ols trso trob trme trwi tiso tiob time tiwi run ruki ruta rupr runu chn chpu chco chwe fon fose fosu sbco x3 sbctx26 sb_adx26 sbnx26 sbbx26) H → va_D A (wMS oa tra tra1 tra2 tra3 tia tia1 tia2 tia3 rua rua1 rua2 rua3 rua4 cha cha1 cha2 cha3 foa foa1 foa2 sba cI cZ cB cC ocs oal olt ols trso trob trme trwi tiso tiob time tiwi run ruki ruta rupr runu chn chpu chco chwe fon fose fosu sbco x3 sbctx26 sb_adx26 sbnx26 sbbx26) → va_S A s.heap H locs → lv_has ls 4 [(0, .ref oa)] → W p l e (headSpec wzK0_sentence rmK0_sentence).room s m ([.ref oa, .int v1] : List Value).toArray below meth c H locs kcx26 ksx26 (MQ below (QId D A r0 (fun u => (wMS oa tra tra1 tra2 tra3 tia tia1 tia2 tia3 rua rua1 rua2 rua3 rua4 cha cha1 cha2 cha3 foa foa1 foa2 sba cI cZ cB cC ocs oal olt ols trso trob trme trwi tiso tiob time tiwi run ruki ruta rupr runu chn chpu chco chwe fon fose fosu sbco sbml_r sbct_r u sbn_r sbb_r))) ([.ref oa, .int v1] : List Value).toArray s 8 2000 A) (F0 m 83 ls []) := by
      intro sbctx26 sbnx26 sbbx26 kcx26 ksx26 sb_adx26 H locs ls hm hP hD hS hl
      unfold mK0_sentence_A26 at hm
      refine lv_aload_n hx hb dK0_sentence_83 rfl (lv_at hl 0 rfl) ?_
      refine va_get (D := D) (ci := 0) (v := .ref sba) (C := RK0) (T := TK0) (N := 10) hx hb hts inK0b hown hK hP 0 rfl rfl 5 (by decide) (hts _ (up wdt1_148)) (fun _ h9 => h9) rfl dK0_sentence_84 ?_
      refine lv_bipush (v := 46) hx hb dK0_sentence_87 (by decide) ?_
      obtain ⟨x6, x7, x8, x9, x10, ec11, hm⟩ := bd5_s hm
      obtain ⟨x12, ex12, hm⟩ := bd1_s hm
      obtain ⟨x13, ex13, hm⟩ := bd1_s hm
      obtain ⟨eb, hm⟩ := bd0_s hm
      have hbu := bud_s eb
      have ex12 := Option.some.inj ex12
      have ex13 := Option.some.inj ex13
      have hPc := hP.sub (ws' := (wS sba cI cZ cB cC sbco x3 sbctx26 sb_adx26 sbnx26 sbbx26)) [21, 22] rfl
      have hDc := hD.sub (ws' := (wS sba cI cZ cB cC sbco x3 sbctx26 sb_adx26 sbnx26 sbbx26)) [21, 22] (by decide) rfl
      have hFc := va_free (wc := (wS sba cI cZ cB cC sbco x3 sbctx26 sb_adx26 sbnx26 sbbx26)) hD hS hA [21, 22] rfl
      refine k_callrdc (wr := [(oa, .inr (0, [.ref tra, .ref tia, .ref rua, .ref cha, .ref foa, .ref sba, .int ocs, .int oal, .int olt, .int ols])), (tra, .inr (1, [.ref tra1, .ref tra2, .ref tra3, .int trso])), (tra1, .inl (cI, 72, .inl trob)), (tra2, .inl (cI, 12, .inl trme)), (tra3, .inl (cI, 12, .inl trwi)), (tia, .inr (1, [.ref tia1, .ref tia2, .ref tia3, .int tiso])), (tia1, .inl (cI, 72, .inl tiob)), (tia2, .inl (cI, 12, .inl time)), (tia3, .inl (cI, 12, .inl tiwi)), (rua, .inr (2, [.ref rua1, .ref rua2, .ref rua3, .ref rua4, .int run])), (rua1, .inl (cI, 10, .inl ruki)), (rua2, .inl (cI, 10, .inl ruta)), (rua3, .inl (cI, 10, .inl rupr)), (rua4, .inl (cI, 10, .inl runu)), (cha, .inr (3, [.ref cha1, .ref cha2, .ref cha3, .int chn])), (cha1, .inl (cZ, 12, .inl chpu)), (cha2, .inl (cI, 12, .inl chco)), (cha3, .inl (cI, 12, .inl chwe)), (foa, .inr (4, [.ref foa1, .ref foa2, .int fon])), (foa1, .inl (cI, 30, .inl fose)), (foa2, .inl (cI, 30, .inl fosu))]) (w1 := fun u => (wS sba cI cZ cB cC sbco x3 x6 u x7 x8)) (ws' := fun u => (wMS oa tra tra1 tra2 tra3 tia tia1 tia2 tia3 rua rua1 rua2 rua3 rua4 cha cha1 cha2 cha3 foa foa1 foa2 sba cI cZ cB cC ocs oal olt ols trso trob trme trwi tiso tiob time tiwi run ruki ruta rupr runu chn chpu chco chwe fon fose fosu sbco x3 x6 u x7 x8)) (va_runV (As := [.int 46]) (rest := []) ⟨hx, hb, hml, hown, hts⟩ (kK6_append_CLStringBuilder l D cI cZ cB cC H.size sba sbco x3 sbctx26 sb_adx26 sbnx26 sbbx26 46 x6 x7 x8 x9 x10 ec11) (cwV 1 hts (gdV2 (up wdt3_163) (up wdt3_142) (up wdt3_143) (up wdt1_7) gzK6_append_CLStringBuilder) rfl rfl rfl (by decide +kernel) ⟨Nat.le_of_ble_eq_true rfl, Nat.le_of_ble_eq_true rfl⟩) ⟨PrE0_blind, va_recv hK hPc (ci := 6) (q0 := 0) rfl rfl, fun U hU hW => ⟨rfl, Pr_at hK hN hPc hDc hU hW, EN_at hE hS hFc hU hW⟩⟩ rfl rfl hl.1 rfl (lv_room (Nat.le_of_ble_eq_true rfl)) dK0_sentence_89 ⟨(by show kcx26 + x9 ≤ 8; omega), (by show ksx26 + x10 ≤ 2000; omega)⟩) hP hD hS hA [21, 22] [0, 1, 2, 3, 4, 5, 6, 7, 8, 9, 10, 11, 12, 13, 14, 15, 16, 17, 18, 19, 20] [0, 1, 2, 3, 4, 5, 6, 7, 8, 9, 10, 11, 12, 13, 14, 15, 16, 17, 18, 19, 20, 21, 22] rfl rfl (by decide) (by decide) (by decide) (fun _ => rfl) (fun q14 H locs hP hD hS => ?_)
      have hP : va_P D vwCl (wMS oa tra tra1 tra2 tra3 tia tia1 tia2 tia3 rua rua1 rua2 rua3 rua4 cha cha1 cha2 cha3 foa foa1 foa2 sba cI cZ cB cC ocs oal olt ols trso trob trme trwi tiso tiob time tiwi run ruki ruta rupr runu chn chpu chco chwe fon fose fosu sbco x3 x6 q14 x7 x8) H := hP
      have hD : va_D A (wMS oa tra tra1 tra2 tra3 tia tia1 tia2 tia3 rua rua1 rua2 rua3 rua4 cha cha1 cha2 cha3 foa foa1 foa2 sba cI cZ cB cC ocs oal olt ols trso trob trme trwi tiso tiob time tiwi run ruki ruta rupr runu chn chpu chco chwe fon fose fosu sbco x3 x6 q14 x7 x8) := hD
      rw [ex12, ex13]
      refine lv_pop hx hb dK0_sentence_92 rfl ?_
      refine lv_aload_n hx hb dK0_sentence_93 rfl (lv_at hl 0 rfl) ?_
      refine va_get (D := D) (ci := 0) (v := .ref sba) (C := RK0) (T := TK0) (N := 10) hx hb hts inK0b hown hK hP 0 rfl rfl 5 (by decide) (hts _ (up wdt1_148)) (fun _ h9 => h9) rfl dK0_sentence_94 ?_
      obtain ⟨x15, ec16, hm⟩ := bd1_s hm
      obtain ⟨eb, hm⟩ := bd0_s hm
      have hbu := bud_s eb
      have hPc := hP.sub (ws' := (wS sba cI cZ cB cC sbco x3 x6 q14 x7 x8)) [21, 22] rfl
      have hDc := hD.sub (ws' := (wS sba cI cZ cB cC sbco x3 x6 q14 x7 x8)) [21, 22] (by decide) rfl
      have hFc := va_free (wc := (wS sba cI cZ cB cC sbco x3 x6 q14 x7 x8)) hD hS hA [21, 22] rfl
      refine k_calli (wr := [(oa, .inr (0, [.ref tra, .ref tia, .ref rua, .ref cha, .ref foa, .ref sba, .int ocs, .int oal, .int olt, .int ols])), (tra, .inr (1, [.ref tra1, .ref tra2, .ref tra3, .int trso])), (tra1, .inl (cI, 72, .inl trob)), (tra2, .inl (cI, 12, .inl trme)), (tra3, .inl (cI, 12, .inl trwi)), (tia, .inr (1, [.ref tia1, .ref tia2, .ref tia3, .int tiso])), (tia1, .inl (cI, 72, .inl tiob)), (tia2, .inl (cI, 12, .inl time)), (tia3, .inl (cI, 12, .inl tiwi)), (rua, .inr (2, [.ref rua1, .ref rua2, .ref rua3, .ref rua4, .int run])), (rua1, .inl (cI, 10, .inl ruki)), (rua2, .inl (cI, 10, .inl ruta)), (rua3, .inl (cI, 10, .inl rupr)), (rua4, .inl (cI, 10, .inl runu)), (cha, .inr (3, [.ref cha1, .ref cha2, .ref cha3, .int chn])), (cha1, .inl (cZ, 12, .inl chpu)), (cha2, .inl (cI, 12, .inl chco)), (cha3, .inl (cI, 12, .inl chwe)), (foa, .inr (4, [.ref foa1, .ref foa2, .int fon])), (foa1, .inl (cI, 30, .inl fose)), (foa2, .inl (cI, 30, .inl fosu))]) (w1 := (wS sba cI cZ cB cC sbco x3 x6 q14 x7 x8)) (ws' := (wMS oa tra tra1 tra2 tra3 tia tia1 tia2 tia3 rua rua1 rua2 rua3 rua4 cha cha1 cha2 cha3 foa foa1 foa2 sba cI cZ cB cC ocs oal olt ols trso trob trme trwi tiso tiob time tiwi run ruki ruta rupr runu chn chpu chco chwe fon fose fosu sbco x3 x6 q14 x7 x8)) (va_runV (As := []) (rest := []) ⟨hx, hb, hml, hown, hts⟩ (kK6_length l D cI cZ cB cC H.size sba sbco x3 x6 q14 x7 x8 x15 ec16) (cwV 0 hts (gdV2 (up wdt3_21) (up wdt3_22) (up wdt3_23) (up wdt1_7) gzK6_length) rfl rfl rfl (by decide +kernel) ⟨Nat.le_of_ble_eq_true rfl, Nat.le_of_ble_eq_true rfl⟩) ⟨PrE0_blind, va_recv hK hPc (ci := 6) (q0 := 0) rfl rfl, fun U hU hW => ⟨rfl, Pr_at hK hN hPc hDc hU hW, EN_at hE hS hFc hU hW⟩⟩ rfl rfl hl.1 rfl (lv_room (Nat.le_of_ble_eq_true rfl)) dK0_sentence_97 ⟨(by show x12 + 0 ≤ 8; omega), (by show x13 + 0 ≤ 2000; omega)⟩) hP hD hS hA [21, 22] [0, 1, 2, 3, 4, 5, 6, 7, 8, 9, 10, 11, 12, 13, 14, 15, 16, 17, 18, 19, 20] [0, 1, 2, 3, 4, 5, 6, 7, 8, 9, 10, 11, 12, 13, 14, 15, 16, 17, 18, 19, 20, 21, 22] rfl rfl (by decide) (by decide) (by decide) rfl (fun H locs hP hD hS => ?_)
      obtain ⟨eb, hm⟩ := bd0_s hm
      have hbu := bud_s eb
      refine W.widen (k := 8) (n := 2000) hbu.1 hbu.2 ?_
      replace hm := Option.some.inj hm
      simp only [Prod.mk.injEq] at hm
      obtain ⟨rfl, rfl, rfl, rfl, rfl⟩ := hm
      exact k_retid hx hb hr hlocks (u := q14) hP hD hS dK0_sentence_100
    have lp26 : ∀ (n26 : Nat) (i3l26 : Int32) (sbctl26 : Int32) (sbnl26 : Nat) (sbbl26 : Nat → Int32) (kcl26 : Nat) (ksl26 : Nat) (sb_adl26 : Nat) (H : Heap) (locs : List Loc) (ls : Array Slot), mK0_sentence_L26 chn chpu chco sbco x1 (mK0_sentence_A26 sbco x3) n26 i3l26 sbctl26 sbnl26 sbbl26 kcl26 ksl26 = some (r0, sbml_r, sbct_r, sbn_r, sbb_r) → va_P D vwCl (wMS oa tra tra1 tra2 tra3 tia tia1 tia2 tia3 rua rua1 rua2 rua3 rua4 cha cha1 cha2 cha3 foa foa1 foa2 sba cI cZ cB cC ocs oal olt ols trso trob trme trwi tiso tiob time tiwi run ruki ruta rupr runu chn chpu chco chwe fon fose fosu sbco x3 sbctl26 sb_adl26 sbnl26 sbbl26) H → va_D A (wMS oa tra tra1 tra2 tra3 tia tia1 tia2 tia3 rua rua1 rua2 rua3 rua4 cha cha1 cha2 cha3 foa foa1 foa2 sba cI cZ cB cC ocs oal olt ols trso trob trme trwi tiso tiob time tiwi run ruki ruta rupr runu chn chpu chco chwe fon fose fosu sbco x3 sbctl26 sb_adl26 sbnl26 sbbl26) → va_S A s.heap H locs → lv_has ls 4 [(3, .int i3l26), (2, .int x1), (0, .ref oa)] → W p l e (headSpec wzK0_sentence rmK0_sentence).room s m ([.ref oa, .int v1] : List Value).toArray below meth c H locs kcl26 ksl26 (MQ below (QId D A r0 (fun u => (wMS oa tra tra1 tra2 tra3 tia tia1 tia2 tia3 rua rua1 rua2 rua3 rua4 cha cha1 cha2 cha3 foa foa1 foa2 sba cI cZ cB cC ocs oal olt ols trso trob trme trwi tiso tiob time tiwi run ruki ruta rupr runu chn chpu chco chwe fon fose fosu sbco sbml_r sbct_r u sbn_r sbb_r))) ([.ref oa, .int v1] : List Value).toArray s 8 2000 A) (F0 m 26 ls []) := by
      intro n26
      induction n26 with
      | zero => intro i3l26 sbctl26 sbnl26 sbbl26 kcl26 ksl26 sb_adl26 H locs ls hm; exact nomatch (show none = _ from hm)
      | succ n26 ih26 =>
        intro i3l26 sbctl26 sbnl26 sbbl26 kcl26 ksl26 sb_adl26 H locs ls hm hP hD hS hl
        replace hm : mK0_sentence_B26 chn chpu chco sbco x1 (mK0_sentence_A26 sbco x3) (mK0_sentence_L26 chn chpu chco sbco x1 (mK0_sentence_A26 sbco x3) n26) i3l26 sbctl26 sbnl26 sbbl26 kcl26 ksl26 = some (r0, sbml_r, sbct_r, sbn_r, sbb_r) := hm
        unfold mK0_sentence_B26 at hm
        refine lv_iload_n hx hb dK0_sentence_26 rfl (lv_at hl 0 rfl) ?_
        refine lv_aload_n hx hb dK0_sentence_27 rfl (lv_at hl 2 rfl) ?_
        refine va_get (D := D) (ci := 0) (v := .ref cha) (C := RK0) (T := TK0) (N := 10) hx hb hts inK0b hown hK hP 0 rfl rfl 3 (by decide) (hts _ (up wdt1_146)) (fun _ h9 => h9) rfl dK0_sentence_28 ?_
        refine va_getN (D := D) (ci := 3) (v := .int chn) (C := RK3) (T := TK3) (N := 4) hx hb hts inK3b hown hK hP 14 rfl rfl 3 (by decide) (nw hN 5 rfl) (fun _ h9 => h9) rfl dK0_sentence_31 ?_
        refine lv_icmp_ge (tgt := 83) hx hb dK0_sentence_34 (by decide) (fun hc => ?_) (fun hc => ?_)
        · replace hm := ift hm hc
          exact lx26 sbctl26 sbnl26 sbbl26 kcl26 ksl26 sb_adl26 _ _ _ hm hP hD hS (lv_sub hl [2] rfl)
        · replace hm := iff_ hm hc
          refine lv_iload_n hx hb dK0_sentence_37 rfl (lv_at hl 1 rfl) ?_
          refine lv_iload_n hx hb dK0_sentence_38 rfl (lv_at hl 0 rfl) ?_
          obtain ⟨x17, ec18, hm⟩ := bd1_s hm
          obtain ⟨eb, hm⟩ := bd0_s hm
          have hbu := bud_s eb
          have hPc : va_P D vwCl [] H := va_P0
          have hDc : va_D A [] := va_D0
          refine k_calli0 (va_runS (As := [.int x1, .int i3l26]) (rest := []) ⟨hx, hb, hml, hown, hts⟩ (kK0_hasMember l D cI cZ cB cC H.size x1 i3l26 x17 ec18) (va_cwS 2 hts (gdS2 (up wdt2_41) (up wdt1_200) (up wdt1_1) (gup gkK0_hasMember)) rfl rfl rfl (by decide +kernel) ⟨Nat.le_of_ble_eq_true rfl, Nat.le_of_ble_eq_true rfl⟩) ⟨Pr_blind, fun U hU hW => ⟨rfl, Pr_at hK hN hPc hDc hU hW⟩⟩ rfl rfl hl.1 rfl (lv_room (Nat.le_of_ble_eq_true rfl)) dK0_sentence_39 ⟨(by show kcl26 + 0 ≤ 8; omega), (by show ksl26 + 0 ≤ 2000; omega)⟩) hP hD hS hA (fun H locs hP hD hS => ?_)
          refine lv_if_eq (tgt := 77) hx hb dK0_sentence_42 (by decide) (fun hc => ?_) (fun hc => ?_)
          · replace hm := ift hm hc
            obtain ⟨x19, ex19, hm⟩ := bd1_s hm
            refine lv_iinc (v := x19) (lv' := [(3, .int x19), (2, .int x1), (0, .ref oa)]) hx hb dK0_sentence_77 hl (k := 0) rfl (by rw [← Option.some.inj ex19]; rfl) (by decide) rfl (fun ls hl => ?_)
            refine lv_goto (tgt := 26) hx hb dK0_sentence_80 (by decide) ?_
            exact ih26 x19 sbctl26 sbnl26 sbbl26 kcl26 ksl26 sb_adl26 _ _ _ hm hP hD hS (lv_sub hl [0, 1, 2] rfl)
          · replace hm := iff_ hm hc
            refine lv_aload_n hx hb dK0_sentence_45 rfl (lv_at hl 2 rfl) ?_
            refine va_get (D := D) (ci := 0) (v := .ref sba) (C := RK0) (T := TK0) (N := 10) hx hb hts inK0b hown hK hP 0 rfl rfl 5 (by decide) (hts _ (up wdt1_148)) (fun _ h9 => h9) rfl dK0_sentence_46 ?_
            obtain ⟨x20, ec21, hm⟩ := bd1_s hm
            obtain ⟨eb, hm⟩ := bd0_s hm
            have hbu := bud_s eb
            have hPc := hP.sub (ws' := (wS sba cI cZ cB cC sbco x3 sbctl26 sb_adl26 sbnl26 sbbl26)) [21, 22] rfl
            have hDc := hD.sub (ws' := (wS sba cI cZ cB cC sbco x3 sbctl26 sb_adl26 sbnl26 sbbl26)) [21, 22] (by decide) rfl
            have hFc := va_free (wc := (wS sba cI cZ cB cC sbco x3 sbctl26 sb_adl26 sbnl26 sbbl26)) hD hS hA [21, 22] rfl
            refine k_calli (wr := [(oa, .inr (0, [.ref tra, .ref tia, .ref rua, .ref cha, .ref foa, .ref sba, .int ocs, .int oal, .int olt, .int ols])), (tra, .inr (1, [.ref tra1, .ref tra2, .ref tra3, .int trso])), (tra1, .inl (cI, 72, .inl trob)), (tra2, .inl (cI, 12, .inl trme)), (tra3, .inl (cI, 12, .inl trwi)), (tia, .inr (1, [.ref tia1, .ref tia2, .ref tia3, .int tiso])), (tia1, .inl (cI, 72, .inl tiob)), (tia2, .inl (cI, 12, .inl time)), (tia3, .inl (cI, 12, .inl tiwi)), (rua, .inr (2, [.ref rua1, .ref rua2, .ref rua3, .ref rua4, .int run])), (rua1, .inl (cI, 10, .inl ruki)), (rua2, .inl (cI, 10, .inl ruta)), (rua3, .inl (cI, 10, .inl rupr)), (rua4, .inl (cI, 10, .inl runu)), (cha, .inr (3, [.ref cha1, .ref cha2, .ref cha3, .int chn])), (cha1, .inl (cZ, 12, .inl chpu)), (cha2, .inl (cI, 12, .inl chco)), (cha3, .inl (cI, 12, .inl chwe)), (foa, .inr (4, [.ref foa1, .ref foa2, .int fon])), (foa1, .inl (cI, 30, .inl fose)), (foa2, .inl (cI, 30, .inl fosu))]) (w1 := (wS sba cI cZ cB cC sbco x3 sbctl26 sb_adl26 sbnl26 sbbl26)) (ws' := (wMS oa tra tra1 tra2 tra3 tia tia1 tia2 tia3 rua rua1 rua2 rua3 rua4 cha cha1 cha2 cha3 foa foa1 foa2 sba cI cZ cB cC ocs oal olt ols trso trob trme trwi tiso tiob time tiwi run ruki ruta rupr runu chn chpu chco chwe fon fose fosu sbco x3 sbctl26 sb_adl26 sbnl26 sbbl26)) (va_runV (As := []) (rest := []) ⟨hx, hb, hml, hown, hts⟩ (kK6_length l D cI cZ cB cC H.size sba sbco x3 sbctl26 sb_adl26 sbnl26 sbbl26 x20 ec21) (cwV 0 hts (gdV2 (up wdt3_21) (up wdt3_22) (up wdt3_23) (up wdt1_7) gzK6_length) rfl rfl rfl (by decide +kernel) ⟨Nat.le_of_ble_eq_true rfl, Nat.le_of_ble_eq_true rfl⟩) ⟨PrE0_blind, va_recv hK hPc (ci := 6) (q0 := 0) rfl rfl, fun U hU hW => ⟨rfl, Pr_at hK hN hPc hDc hU hW, EN_at hE hS hFc hU hW⟩⟩ rfl rfl hl.1 rfl (lv_room (Nat.le_of_ble_eq_true rfl)) dK0_sentence_49 ⟨(by show kcl26 + 0 ≤ 8; omega), (by show ksl26 + 0 ≤ 2000; omega)⟩) hP hD hS hA [21, 22] [0, 1, 2, 3, 4, 5, 6, 7, 8, 9, 10, 11, 12, 13, 14, 15, 16, 17, 18, 19, 20] [0, 1, 2, 3, 4, 5, 6, 7, 8, 9, 10, 11, 12, 13, 14, 15, 16, 17, 18, 19, 20, 21, 22] rfl rfl (by decide) (by decide) (by decide) rfl (fun H locs hP hD hS => ?_)
            refine lv_if_le (tgt := 65) hx hb dK0_sentence_52 (by decide) (fun hc => ?_) (fun hc => ?_)
            · replace hm := ift hm hc
              refine lv_aload_n hx hb dK0_sentence_65 rfl (lv_at hl 2 rfl) ?_
              refine va_get (D := D) (ci := 0) (v := .ref cha) (C := RK0) (T := TK0) (N := 10) hx hb hts inK0b hown hK hP 0 rfl rfl 3 (by decide) (hts _ (up wdt1_146)) (fun _ h9 => h9) rfl dK0_sentence_66 ?_
              refine lv_iload_n hx hb dK0_sentence_69 rfl (lv_at hl 0 rfl) ?_
              refine lv_aload_n hx hb dK0_sentence_70 rfl (lv_at hl 2 rfl) ?_
              refine va_get (D := D) (ci := 0) (v := .ref sba) (C := RK0) (T := TK0) (N := 10) hx hb hts inK0b hown hK hP 0 rfl rfl 5 (by decide) (hts _ (up wdt1_148)) (fun _ h9 => h9) rfl dK0_sentence_71 ?_
              obtain ⟨x22, x23, x24, x25, x26, ec27, hm⟩ := bd5_s hm
              obtain ⟨x28, ex28, hm⟩ := bd1_s hm
              obtain ⟨x29, ex29, hm⟩ := bd1_s hm
              obtain ⟨eb, hm⟩ := bd0_s hm
              have hbu := bud_s eb
              have ex28 := Option.some.inj ex28
              have ex29 := Option.some.inj ex29
              have hPc := hP.sub (ws' := (wCS cha cha1 cha2 cha3 sba cI cZ cB cC chn chpu chco chwe sbco x3 sbctl26 sb_adl26 sbnl26 sbbl26)) [14, 15, 16, 17, 21, 22] rfl
              have hDc := hD.sub (ws' := (wCS cha cha1 cha2 cha3 sba cI cZ cB cC chn chpu chco chwe sbco x3 sbctl26 sb_adl26 sbnl26 sbbl26)) [14, 15, 16, 17, 21, 22] (by decide) rfl
              have hFc := va_free (wc := (wCS cha cha1 cha2 cha3 sba cI cZ cB cC chn chpu chco chwe sbco x3 sbctl26 sb_adl26 sbnl26 sbbl26)) hD hS hA [14, 15, 16, 17, 21, 22] rfl
              refine k_callvdc (wr := [(oa, .inr (0, [.ref tra, .ref tia, .ref rua, .ref cha, .ref foa, .ref sba, .int ocs, .int oal, .int olt, .int ols])), (tra, .inr (1, [.ref tra1, .ref tra2, .ref tra3, .int trso])), (tra1, .inl (cI, 72, .inl trob)), (tra2, .inl (cI, 12, .inl trme)), (tra3, .inl (cI, 12, .inl trwi)), (tia, .inr (1, [.ref tia1, .ref tia2, .ref tia3, .int tiso])), (tia1, .inl (cI, 72, .inl tiob)), (tia2, .inl (cI, 12, .inl time)), (tia3, .inl (cI, 12, .inl tiwi)), (rua, .inr (2, [.ref rua1, .ref rua2, .ref rua3, .ref rua4, .int run])), (rua1, .inl (cI, 10, .inl ruki)), (rua2, .inl (cI, 10, .inl ruta)), (rua3, .inl (cI, 10, .inl rupr)), (rua4, .inl (cI, 10, .inl runu)), (foa, .inr (4, [.ref foa1, .ref foa2, .int fon])), (foa1, .inl (cI, 30, .inl fose)), (foa2, .inl (cI, 30, .inl fosu))]) (w1 := fun u => (wCS cha cha1 cha2 cha3 sba cI cZ cB cC chn chpu chco chwe sbco x3 x22 u x23 x24)) (ws' := fun u => (wMS oa tra tra1 tra2 tra3 tia tia1 tia2 tia3 rua rua1 rua2 rua3 rua4 cha cha1 cha2 cha3 foa foa1 foa2 sba cI cZ cB cC ocs oal olt ols trso trob trme trwi tiso tiob time tiwi run ruki ruta rupr runu chn chpu chco chwe fon fose fosu sbco x3 x22 u x23 x24)) (va_runV (As := [.int i3l26, .ref sba]) (rest := []) ⟨hx, hb, hml, hown, hts⟩ (kK3_tell l D cI cZ cB cC H.size cha cha1 cha2 cha3 sba chn chpu chco chwe sbco x3 sbctl26 sb_adl26 sbnl26 sbbl26 i3l26 x22 x23 x24 x25 x26 ec27) (cwV 2 hts (gdV2 (up wdt3_109) (up wdt3_110) (up wdt3_111) (up wdt1_4) gzK3_tell) rfl rfl rfl (by decide +kernel) ⟨Nat.le_of_ble_eq_true rfl, Nat.le_of_ble_eq_true rfl⟩) ⟨PrE0_blind, va_recv hK hPc (ci := 3) (q0 := 0) rfl rfl, fun U hU hW => ⟨rfl, Pr_at hK hN hPc hDc hU hW, EN_at hE hS hFc hU hW⟩⟩ rfl rfl hl.1 rfl (lv_room (Nat.le_of_ble_eq_true rfl)) dK0_sentence_74 ⟨(by show kcl26 + x25 ≤ 8; omega), (by show ksl26 + x26 ≤ 2000; omega)⟩) hP hD hS hA [14, 15, 16, 17, 21, 22] [0, 1, 2, 3, 4, 5, 6, 7, 8, 9, 10, 11, 12, 13, 18, 19, 20] [0, 1, 2, 3, 4, 5, 6, 7, 8, 9, 10, 11, 12, 13, 17, 18, 19, 20, 14, 15, 16, 21, 22] rfl rfl (by decide) (by decide) (by decide) (fun _ => rfl) (fun q30 H locs hP hD hS => ?_)
              have hP : va_P D vwCl (wMS oa tra tra1 tra2 tra3 tia tia1 tia2 tia3 rua rua1 rua2 rua3 rua4 cha cha1 cha2 cha3 foa foa1 foa2 sba cI cZ cB cC ocs oal olt ols trso trob trme trwi tiso tiob time tiwi run ruki ruta rupr runu chn chpu chco chwe fon fose fosu sbco x3 x22 q30 x23 x24) H := hP
              have hD : va_D A (wMS oa tra tra1 tra2 tra3 tia tia1 tia2 tia3 rua rua1 rua2 rua3 rua4 cha cha1 cha2 cha3 foa foa1 foa2 sba cI cZ cB cC ocs oal olt ols trso trob trme trwi tiso tiob time tiwi run ruki ruta rupr runu chn chpu chco chwe fon fose fosu sbco x3 x22 q30 x23 x24) := hD
              rw [ex28, ex29]
              obtain ⟨x31, ex31, hm⟩ := bd1_s hm
              refine lv_iinc (v := x31) (lv' := [(3, .int x31), (2, .int x1), (0, .ref oa)]) hx hb dK0_sentence_77 hl (k := 0) rfl (by rw [← Option.some.inj ex31]; rfl) (by decide) rfl (fun ls hl => ?_)
              refine lv_goto (tgt := 26) hx hb dK0_sentence_80 (by decide) ?_
              exact ih26 x31 x22 x23 x24 x28 x29 q30 _ _ _ hm hP hD hS (lv_sub hl [0, 1, 2] rfl)
            · replace hm := iff_ hm hc
              refine lv_aload_n hx hb dK0_sentence_55 rfl (lv_at hl 2 rfl) ?_
              refine va_get (D := D) (ci := 0) (v := .ref sba) (C := RK0) (T := TK0) (N := 10) hx hb hts inK0b hown hK hP 0 rfl rfl 5 (by decide) (hts _ (up wdt1_148)) (fun _ h9 => h9) rfl dK0_sentence_56 ?_
              refine va_ldcS hx hb hown hkr0 dK0_sentence_59 ?_
              obtain ⟨x32, x33, x34, x35, x36, ec37, hm⟩ := bd5_s hm
              obtain ⟨x38, ex38, hm⟩ := bd1_s hm
              obtain ⟨x39, ex39, hm⟩ := bd1_s hm
              obtain ⟨eb, hm⟩ := bd0_s hm
              have hbu := bud_s eb
              have ex38 := Option.some.inj ex38
              have ex39 := Option.some.inj ex39
              have hPc := hP.sub (ws' := (wS sba cI cZ cB cC sbco x3 sbctl26 sb_adl26 sbnl26 sbbl26)) [21, 22] rfl
              have hDc := hD.sub (ws' := (wS sba cI cZ cB cC sbco x3 sbctl26 sb_adl26 sbnl26 sbbl26)) [21, 22] (by decide) rfl
              have hFc := va_free (wc := (wS sba cI cZ cB cC sbco x3 sbctl26 sb_adl26 sbnl26 sbbl26)) hD hS hA [21, 22] rfl
              refine k_callrdc (wr := [(oa, .inr (0, [.ref tra, .ref tia, .ref rua, .ref cha, .ref foa, .ref sba, .int ocs, .int oal, .int olt, .int ols])), (tra, .inr (1, [.ref tra1, .ref tra2, .ref tra3, .int trso])), (tra1, .inl (cI, 72, .inl trob)), (tra2, .inl (cI, 12, .inl trme)), (tra3, .inl (cI, 12, .inl trwi)), (tia, .inr (1, [.ref tia1, .ref tia2, .ref tia3, .int tiso])), (tia1, .inl (cI, 72, .inl tiob)), (tia2, .inl (cI, 12, .inl time)), (tia3, .inl (cI, 12, .inl tiwi)), (rua, .inr (2, [.ref rua1, .ref rua2, .ref rua3, .ref rua4, .int run])), (rua1, .inl (cI, 10, .inl ruki)), (rua2, .inl (cI, 10, .inl ruta)), (rua3, .inl (cI, 10, .inl rupr)), (rua4, .inl (cI, 10, .inl runu)), (cha, .inr (3, [.ref cha1, .ref cha2, .ref cha3, .int chn])), (cha1, .inl (cZ, 12, .inl chpu)), (cha2, .inl (cI, 12, .inl chco)), (cha3, .inl (cI, 12, .inl chwe)), (foa, .inr (4, [.ref foa1, .ref foa2, .int fon])), (foa1, .inl (cI, 30, .inl fose)), (foa2, .inl (cI, 30, .inl fosu))]) (w1 := fun u => (wS sba cI cZ cB cC sbco x3 x32 u x33 x34)) (ws' := fun u => (wMS oa tra tra1 tra2 tra3 tia tia1 tia2 tia3 rua rua1 rua2 rua3 rua4 cha cha1 cha2 cha3 foa foa1 foa2 sba cI cZ cB cC ocs oal olt ols trso trob trme trwi tiso tiob time tiwi run ruki ruta rupr runu chn chpu chco chwe fon fose fosu sbco x3 x32 u x33 x34)) (va_runV (As := [.ref ka0]) (rest := []) ⟨hx, hb, hml, hown, hts⟩ (kK6_append_LStringLStringBuilder l D cI cZ cB cC H.size sba sbco x3 sbctl26 sb_adl26 sbnl26 sbbl26 ka0 kv0 2 ktx0 x32 x33 x34 x35 x36 ec37) (cwV 1 hts (gdV2 (up wdt3_29) (up wdt3_30) (up wdt3_31) (up wdt1_7) gzK6_append_LStringLStringBuilder) rfl rfl rfl (by decide +kernel) ⟨Nat.le_of_ble_eq_true rfl, Nat.le_of_ble_eq_true rfl⟩) ⟨PrE1_blind, va_recv hK hPc (ci := 6) (q0 := 0) rfl rfl, fun U hU hW => ⟨rfl, Pr_at hK hN hPc hDc hU hW, EN_at hE hS hFc hU hW, StrK_at hk0 hS hFc hU hW⟩⟩ rfl rfl hl.1 rfl (lv_room (Nat.le_of_ble_eq_true rfl)) dK0_sentence_61 ⟨(by show kcl26 + x35 ≤ 8; omega), (by show ksl26 + x36 ≤ 2000; omega)⟩) hP hD hS hA [21, 22] [0, 1, 2, 3, 4, 5, 6, 7, 8, 9, 10, 11, 12, 13, 14, 15, 16, 17, 18, 19, 20] [0, 1, 2, 3, 4, 5, 6, 7, 8, 9, 10, 11, 12, 13, 14, 15, 16, 17, 18, 19, 20, 21, 22] rfl rfl (by decide) (by decide) (by decide) (fun _ => rfl) (fun q40 H locs hP hD hS => ?_)
              have hP : va_P D vwCl (wMS oa tra tra1 tra2 tra3 tia tia1 tia2 tia3 rua rua1 rua2 rua3 rua4 cha cha1 cha2 cha3 foa foa1 foa2 sba cI cZ cB cC ocs oal olt ols trso trob trme trwi tiso tiob time tiwi run ruki ruta rupr runu chn chpu chco chwe fon fose fosu sbco x3 x32 q40 x33 x34) H := hP
              have hD : va_D A (wMS oa tra tra1 tra2 tra3 tia tia1 tia2 tia3 rua rua1 rua2 rua3 rua4 cha cha1 cha2 cha3 foa foa1 foa2 sba cI cZ cB cC ocs oal olt ols trso trob trme trwi tiso tiob time tiwi run ruki ruta rupr runu chn chpu chco chwe fon fose fosu sbco x3 x32 q40 x33 x34) := hD
              rw [ex38, ex39]
              refine lv_pop hx hb dK0_sentence_64 rfl ?_
              refine lv_aload_n hx hb dK0_sentence_65 rfl (lv_at hl 2 rfl) ?_
              refine va_get (D := D) (ci := 0) (v := .ref cha) (C := RK0) (T := TK0) (N := 10) hx hb hts inK0b hown hK hP 0 rfl rfl 3 (by decide) (hts _ (up wdt1_146)) (fun _ h9 => h9) rfl dK0_sentence_66 ?_
              refine lv_iload_n hx hb dK0_sentence_69 rfl (lv_at hl 0 rfl) ?_
              refine lv_aload_n hx hb dK0_sentence_70 rfl (lv_at hl 2 rfl) ?_
              refine va_get (D := D) (ci := 0) (v := .ref sba) (C := RK0) (T := TK0) (N := 10) hx hb hts inK0b hown hK hP 0 rfl rfl 5 (by decide) (hts _ (up wdt1_148)) (fun _ h9 => h9) rfl dK0_sentence_71 ?_
              obtain ⟨x41, x42, x43, x44, x45, ec46, hm⟩ := bd5_s hm
              obtain ⟨x47, ex47, hm⟩ := bd1_s hm
              obtain ⟨x48, ex48, hm⟩ := bd1_s hm
              obtain ⟨eb, hm⟩ := bd0_s hm
              have hbu := bud_s eb
              have ex47 := Option.some.inj ex47
              have ex48 := Option.some.inj ex48
              have hPc := hP.sub (ws' := (wCS cha cha1 cha2 cha3 sba cI cZ cB cC chn chpu chco chwe sbco x3 x32 q40 x33 x34)) [14, 15, 16, 17, 21, 22] rfl
              have hDc := hD.sub (ws' := (wCS cha cha1 cha2 cha3 sba cI cZ cB cC chn chpu chco chwe sbco x3 x32 q40 x33 x34)) [14, 15, 16, 17, 21, 22] (by decide) rfl
              have hFc := va_free (wc := (wCS cha cha1 cha2 cha3 sba cI cZ cB cC chn chpu chco chwe sbco x3 x32 q40 x33 x34)) hD hS hA [14, 15, 16, 17, 21, 22] rfl
              refine k_callvdc (wr := [(oa, .inr (0, [.ref tra, .ref tia, .ref rua, .ref cha, .ref foa, .ref sba, .int ocs, .int oal, .int olt, .int ols])), (tra, .inr (1, [.ref tra1, .ref tra2, .ref tra3, .int trso])), (tra1, .inl (cI, 72, .inl trob)), (tra2, .inl (cI, 12, .inl trme)), (tra3, .inl (cI, 12, .inl trwi)), (tia, .inr (1, [.ref tia1, .ref tia2, .ref tia3, .int tiso])), (tia1, .inl (cI, 72, .inl tiob)), (tia2, .inl (cI, 12, .inl time)), (tia3, .inl (cI, 12, .inl tiwi)), (rua, .inr (2, [.ref rua1, .ref rua2, .ref rua3, .ref rua4, .int run])), (rua1, .inl (cI, 10, .inl ruki)), (rua2, .inl (cI, 10, .inl ruta)), (rua3, .inl (cI, 10, .inl rupr)), (rua4, .inl (cI, 10, .inl runu)), (foa, .inr (4, [.ref foa1, .ref foa2, .int fon])), (foa1, .inl (cI, 30, .inl fose)), (foa2, .inl (cI, 30, .inl fosu))]) (w1 := fun u => (wCS cha cha1 cha2 cha3 sba cI cZ cB cC chn chpu chco chwe sbco x3 x41 u x42 x43)) (ws' := fun u => (wMS oa tra tra1 tra2 tra3 tia tia1 tia2 tia3 rua rua1 rua2 rua3 rua4 cha cha1 cha2 cha3 foa foa1 foa2 sba cI cZ cB cC ocs oal olt ols trso trob trme trwi tiso tiob time tiwi run ruki ruta rupr runu chn chpu chco chwe fon fose fosu sbco x3 x41 u x42 x43)) (va_runV (As := [.int i3l26, .ref sba]) (rest := []) ⟨hx, hb, hml, hown, hts⟩ (kK3_tell l D cI cZ cB cC H.size cha cha1 cha2 cha3 sba chn chpu chco chwe sbco x3 x32 q40 x33 x34 i3l26 x41 x42 x43 x44 x45 ec46) (cwV 2 hts (gdV2 (up wdt3_109) (up wdt3_110) (up wdt3_111) (up wdt1_4) gzK3_tell) rfl rfl rfl (by decide +kernel) ⟨Nat.le_of_ble_eq_true rfl, Nat.le_of_ble_eq_true rfl⟩) ⟨PrE0_blind, va_recv hK hPc (ci := 3) (q0 := 0) rfl rfl, fun U hU hW => ⟨rfl, Pr_at hK hN hPc hDc hU hW, EN_at hE hS hFc hU hW⟩⟩ rfl rfl hl.1 rfl (lv_room (Nat.le_of_ble_eq_true rfl)) dK0_sentence_74 ⟨(by show x38 + x44 ≤ 8; omega), (by show x39 + x45 ≤ 2000; omega)⟩) hP hD hS hA [14, 15, 16, 17, 21, 22] [0, 1, 2, 3, 4, 5, 6, 7, 8, 9, 10, 11, 12, 13, 18, 19, 20] [0, 1, 2, 3, 4, 5, 6, 7, 8, 9, 10, 11, 12, 13, 17, 18, 19, 20, 14, 15, 16, 21, 22] rfl rfl (by decide) (by decide) (by decide) (fun _ => rfl) (fun q49 H locs hP hD hS => ?_)
              have hP : va_P D vwCl (wMS oa tra tra1 tra2 tra3 tia tia1 tia2 tia3 rua rua1 rua2 rua3 rua4 cha cha1 cha2 cha3 foa foa1 foa2 sba cI cZ cB cC ocs oal olt ols trso trob trme trwi tiso tiob time tiwi run ruki ruta rupr runu chn chpu chco chwe fon fose fosu sbco x3 x41 q49 x42 x43) H := hP
              have hD : va_D A (wMS oa tra tra1 tra2 tra3 tia tia1 tia2 tia3 rua rua1 rua2 rua3 rua4 cha cha1 cha2 cha3 foa foa1 foa2 sba cI cZ cB cC ocs oal olt ols trso trob trme trwi tiso tiob time tiwi run ruki ruta rupr runu chn chpu chco chwe fon fose fosu sbco x3 x41 q49 x42 x43) := hD
              rw [ex47, ex48]
              obtain ⟨x50, ex50, hm⟩ := bd1_s hm
              refine lv_iinc (v := x50) (lv' := [(3, .int x50), (2, .int x1), (0, .ref oa)]) hx hb dK0_sentence_77 hl (k := 0) rfl (by rw [← Option.some.inj ex50]; rfl) (by decide) rfl (fun ls hl => ?_)
              refine lv_goto (tgt := 26) hx hb dK0_sentence_80 (by decide) ?_
              exact ih26 x50 x41 x42 x43 x47 x48 q49 _ _ _ hm hP hD hS (lv_sub hl [0, 1, 2] rfl)
    exact lp26 5000 0 x4 sbn sbb 0 0 sb_ad _ _ _ hm hP hD hS (lv_sub hl [0, 1, 2] rfl)
  · replace hm := ift hm hc
    refine lv_bipush (v := (-2)) hx hb dK0_sentence_13 (by decide) ?_
    obtain ⟨eb, hm⟩ := bd0_s hm
    have hbu := bud_s eb
    refine W.widen (k := 8) (n := 2000) hbu.1 hbu.2 ?_
    replace hm := Option.some.inj hm
    simp only [Prod.mk.injEq] at hm
    obtain ⟨rfl, rfl, rfl, rfl, rfl⟩ := hm
    exact k_retid hx hb hr hlocks (u := sb_ad) hP hD hS dK0_sentence_15
def mK0_letter (sbco : Int32) (sbct : Int32) (sbn : Nat) (sbb : Nat → Int32) (v1 : Int32) : Option (Int32) :=
  if v1 < 0 then
  (some ((-2)))
  else
  (bd1 (mK6_length sbct) fun x1 => if v1 < x1 then
    (bd1 (mK6_charAt sbco sbct sbn sbb v1) fun x3 => some x3)
    else
    (some ((-2))))
abbrev rmK0_letter : Room := { frames := 4, cells := 0, slots := 0, locals := 88 }
set_option maxHeartbeats 4000000 in
set_option maxRecDepth 100000 in
theorem kK0_letter (l : Launch) (D : va_G) (cI cZ cB cC : ClassId) (sz : Nat) (oa : Nat) (tra : Nat) (tra1 : Nat) (tra2 : Nat) (tra3 : Nat) (tia : Nat) (tia1 : Nat) (tia2 : Nat) (tia3 : Nat) (rua : Nat) (rua1 : Nat) (rua2 : Nat) (rua3 : Nat) (rua4 : Nat) (cha : Nat) (cha1 : Nat) (cha2 : Nat) (cha3 : Nat) (foa : Nat) (foa1 : Nat) (foa2 : Nat) (sba : Nat) (ocs : Int32) (oal : Int32) (olt : Int32) (ols : Int32) (trso : Int32) (trob : Nat → Int32) (trme : Nat → Int32) (trwi : Nat → Int32) (tiso : Int32) (tiob : Nat → Int32) (time : Nat → Int32) (tiwi : Nat → Int32) (run : Int32) (ruki : Nat → Int32) (ruta : Nat → Int32) (rupr : Nat → Int32) (runu : Nat → Int32) (chn : Int32) (chpu : Nat → Int32) (chco : Nat → Int32) (chwe : Nat → Int32) (fon : Int32) (fose : Nat → Int32) (fosu : Nat → Int32) (sbco : Int32) (sbml : Int32) (sbct : Int32) (sb_ad : Nat) (sbn : Nat) (sbb : Nat → Int32) (v1 : Int32) (r0 : Int32) (hm : mK0_letter sbco sbct sbn sbb v1 = some r0) : Met l yK0_letter wzK0_letter rmK0_letter (va_Pc [.ref oa, .int v1] (PrE0 D (tyL cI cZ cB cC) sz (wMS oa tra tra1 tra2 tra3 tia tia1 tia2 tia3 rua rua1 rua2 rua3 rua4 cha cha1 cha2 cha3 foa foa1 foa2 sba cI cZ cB cC ocs oal olt ols trso trob trme trwi tiso tiob time tiwi run ruki ruta rupr runu chn chpu chco chwe fon fose fosu sbco sbml sbct sb_ad sbn sbb))) (QI D (va_A (wMS oa tra tra1 tra2 tra3 tia tia1 tia2 tia3 rua rua1 rua2 rua3 rua4 cha cha1 cha2 cha3 foa foa1 foa2 sba cI cZ cB cC ocs oal olt ols trso trob trme trwi tiso tiob time tiwi run ruki ruta rupr runu chn chpu chco chwe fon fose fosu sbco sbml sbct sb_ad sbn sbb) sz) r0 (wMS oa tra tra1 tra2 tra3 tia tia1 tia2 tia3 rua rua1 rua2 rua3 rua4 cha cha1 cha2 cha3 foa foa1 foa2 sba cI cZ cB cC ocs oal olt ols trso trob trme trwi tiso tiob time tiwi run ruki ruta rupr runu chn chpu chco chwe fon fose fosu sbco sbml sbct sb_ad sbn sbb)) 0 0 (va_A (wMS oa tra tra1 tra2 tra3 tia tia1 tia2 tia3 rua rua1 rua2 rua3 rua4 cha cha1 cha2 cha3 foa foa1 foa2 sba cI cZ cB cC ocs oal olt ols trso trob trme trwi tiso tiob time tiwi run ruki ruta rupr runu chn chpu chco chwe fon fose fosu sbco sbml sbct sb_ad sbn sbb) sz) := by
  refine Met.ofW (cc := cK0_letter) (maxL := 2) (ret := (some .int)) (by decide) rfl ?_
  intro p e s m args below meth c s₁ B hml hv
  obtain ⟨rfl, ⟨hsz, hP, hK, hD0, hN⟩, hE⟩ := hv
  have hx := B.exec
  have hb := B.bytes
  have hr := B.returns
  have hts := htsB (atoms_spec (ws := wzK0_letter) B.pre)
  have hown : s.vm.findClass RK0 = some m.cls := findClass_of_methodNamed B.named
  have hlocks := B.notSynchronized
  subst hsz
  have hD := hD0.self (sz := s.heap.size)
  generalize hAe : va_A (wMS oa tra tra1 tra2 tra3 tia tia1 tia2 tia3 rua rua1 rua2 rua3 rua4 cha cha1 cha2 cha3 foa foa1 foa2 sba cI cZ cB cC ocs oal olt ols trso trob trme trwi tiso tiob time tiwi run ruki ruta rupr runu chn chpu chco chwe fon fose fosu sbco sbml sbct sb_ad sbn sbb) s.heap.size = A at hD hE ⊢
  have hA : ∀ q : Nat, s.heap.size ≤ q → A q := fun q h => by rw [← hAe]; exact Or.inr h
  refine kstart (A := A) hP (fun H hP hS => ?_)
  have hl := lv_entry ([.ref oa, .int v1]) (n := 2) (Nat.le_of_ble_eq_true rfl)
  rw [lg_entry_eq]
  generalize (lg_sl ([.ref oa, .int v1]) ++ List.replicate (2 - (lg_sl ([.ref oa, .int v1])).length) Slot.unset).toArray = ls at hl ⊢
  have hl : lv_has ls 2 [(0, .ref oa), (1, .int v1)] := hl
  unfold mK0_letter at hm
  obtain ⟨hE0z, ⟨dg1, hE1z, hE1t⟩, ⟨dg2, hE2z, hE2t⟩, hE4, ⟨ka0, kv0, hkr0, hk0⟩, ⟨ka1, kv1, hkr1, hk1⟩, ⟨ka2, kv2, hkr2, hk2⟩⟩ := id hE
  refine lv_iload_n hx hb dK0_letter_0 rfl (lv_at hl 1 rfl) ?_
  refine lv_if_lt (tgt := 15) hx hb dK0_letter_1 (by decide) (fun hc => ?_) (fun hc => ?_)
  · replace hm := ift hm hc
    refine lv_bipush (v := (-2)) hx hb dK0_letter_15 (by decide) ?_
    replace hm := Option.some.inj hm
    subst hm
    exact k_reti hx hb hr hlocks hP hD hS dK0_letter_17
  · replace hm := iff_ hm hc
    refine lv_iload_n hx hb dK0_letter_4 rfl (lv_at hl 1 rfl) ?_
    refine lv_aload_n hx hb dK0_letter_5 rfl (lv_at hl 0 rfl) ?_
    refine va_get (D := D) (ci := 0) (v := .ref sba) (C := RK0) (T := TK0) (N := 10) hx hb hts inK0b hown hK hP 0 rfl rfl 5 (by decide) (hts _ (up wdt1_148)) (fun _ h9 => h9) rfl dK0_letter_6 ?_
    obtain ⟨x1, ec2, hm⟩ := bd1_s hm
    have hPc := hP.sub (ws' := (wS sba cI cZ cB cC sbco sbml sbct sb_ad sbn sbb)) [21, 22] rfl
    have hDc := hD.sub (ws' := (wS sba cI cZ cB cC sbco sbml sbct sb_ad sbn sbb)) [21, 22] (by decide) rfl
    have hFc := va_free (wc := (wS sba cI cZ cB cC sbco sbml sbct sb_ad sbn sbb)) hD hS hA [21, 22] rfl
    refine k_calli (wr := [(oa, .inr (0, [.ref tra, .ref tia, .ref rua, .ref cha, .ref foa, .ref sba, .int ocs, .int oal, .int olt, .int ols])), (tra, .inr (1, [.ref tra1, .ref tra2, .ref tra3, .int trso])), (tra1, .inl (cI, 72, .inl trob)), (tra2, .inl (cI, 12, .inl trme)), (tra3, .inl (cI, 12, .inl trwi)), (tia, .inr (1, [.ref tia1, .ref tia2, .ref tia3, .int tiso])), (tia1, .inl (cI, 72, .inl tiob)), (tia2, .inl (cI, 12, .inl time)), (tia3, .inl (cI, 12, .inl tiwi)), (rua, .inr (2, [.ref rua1, .ref rua2, .ref rua3, .ref rua4, .int run])), (rua1, .inl (cI, 10, .inl ruki)), (rua2, .inl (cI, 10, .inl ruta)), (rua3, .inl (cI, 10, .inl rupr)), (rua4, .inl (cI, 10, .inl runu)), (cha, .inr (3, [.ref cha1, .ref cha2, .ref cha3, .int chn])), (cha1, .inl (cZ, 12, .inl chpu)), (cha2, .inl (cI, 12, .inl chco)), (cha3, .inl (cI, 12, .inl chwe)), (foa, .inr (4, [.ref foa1, .ref foa2, .int fon])), (foa1, .inl (cI, 30, .inl fose)), (foa2, .inl (cI, 30, .inl fosu))]) (w1 := (wS sba cI cZ cB cC sbco sbml sbct sb_ad sbn sbb)) (ws' := (wMS oa tra tra1 tra2 tra3 tia tia1 tia2 tia3 rua rua1 rua2 rua3 rua4 cha cha1 cha2 cha3 foa foa1 foa2 sba cI cZ cB cC ocs oal olt ols trso trob trme trwi tiso tiob time tiwi run ruki ruta rupr runu chn chpu chco chwe fon fose fosu sbco sbml sbct sb_ad sbn sbb)) (va_runV (As := []) (rest := [.int v1]) ⟨hx, hb, hml, hown, hts⟩ (kK6_length l D cI cZ cB cC H.size sba sbco sbml sbct sb_ad sbn sbb x1 ec2) (cwV 0 hts (gdV2 (up wdt3_21) (up wdt3_22) (up wdt3_23) (up wdt1_7) gzK6_length) rfl rfl rfl (by decide +kernel) ⟨Nat.le_of_ble_eq_true rfl, Nat.le_of_ble_eq_true rfl⟩) ⟨PrE0_blind, va_recv hK hPc (ci := 6) (q0 := 0) rfl rfl, fun U hU hW => ⟨rfl, Pr_at hK hN hPc hDc hU hW, EN_at hE hS hFc hU hW⟩⟩ rfl rfl hl.1 rfl (lv_room (Nat.le_of_ble_eq_true rfl)) dK0_letter_9 ⟨Nat.le_of_ble_eq_true rfl, Nat.le_of_ble_eq_true rfl⟩) hP hD hS hA [21, 22] [0, 1, 2, 3, 4, 5, 6, 7, 8, 9, 10, 11, 12, 13, 14, 15, 16, 17, 18, 19, 20] [0, 1, 2, 3, 4, 5, 6, 7, 8, 9, 10, 11, 12, 13, 14, 15, 16, 17, 18, 19, 20, 21, 22] rfl rfl (by decide) (by decide) (by decide) rfl (fun H locs hP hD hS => ?_)
    refine lv_icmp_lt (tgt := 18) hx hb dK0_letter_12 (by decide) (fun hc => ?_) (fun hc => ?_)
    · replace hm := ift hm hc
      refine lv_aload_n hx hb dK0_letter_18 rfl (lv_at hl 0 rfl) ?_
      refine va_get (D := D) (ci := 0) (v := .ref sba) (C := RK0) (T := TK0) (N := 10) hx hb hts inK0b hown hK hP 0 rfl rfl 5 (by decide) (hts _ (up wdt1_148)) (fun _ h9 => h9) rfl dK0_letter_19 ?_
      refine lv_iload_n hx hb dK0_letter_22 rfl (lv_at hl 1 rfl) ?_
      obtain ⟨x3, ec4, hm⟩ := bd1_s hm
      have hPc := hP.sub (ws' := (wS sba cI cZ cB cC sbco sbml sbct sb_ad sbn sbb)) [21, 22] rfl
      have hDc := hD.sub (ws' := (wS sba cI cZ cB cC sbco sbml sbct sb_ad sbn sbb)) [21, 22] (by decide) rfl
      have hFc := va_free (wc := (wS sba cI cZ cB cC sbco sbml sbct sb_ad sbn sbb)) hD hS hA [21, 22] rfl
      refine k_calli (wr := [(oa, .inr (0, [.ref tra, .ref tia, .ref rua, .ref cha, .ref foa, .ref sba, .int ocs, .int oal, .int olt, .int ols])), (tra, .inr (1, [.ref tra1, .ref tra2, .ref tra3, .int trso])), (tra1, .inl (cI, 72, .inl trob)), (tra2, .inl (cI, 12, .inl trme)), (tra3, .inl (cI, 12, .inl trwi)), (tia, .inr (1, [.ref tia1, .ref tia2, .ref tia3, .int tiso])), (tia1, .inl (cI, 72, .inl tiob)), (tia2, .inl (cI, 12, .inl time)), (tia3, .inl (cI, 12, .inl tiwi)), (rua, .inr (2, [.ref rua1, .ref rua2, .ref rua3, .ref rua4, .int run])), (rua1, .inl (cI, 10, .inl ruki)), (rua2, .inl (cI, 10, .inl ruta)), (rua3, .inl (cI, 10, .inl rupr)), (rua4, .inl (cI, 10, .inl runu)), (cha, .inr (3, [.ref cha1, .ref cha2, .ref cha3, .int chn])), (cha1, .inl (cZ, 12, .inl chpu)), (cha2, .inl (cI, 12, .inl chco)), (cha3, .inl (cI, 12, .inl chwe)), (foa, .inr (4, [.ref foa1, .ref foa2, .int fon])), (foa1, .inl (cI, 30, .inl fose)), (foa2, .inl (cI, 30, .inl fosu))]) (w1 := (wS sba cI cZ cB cC sbco sbml sbct sb_ad sbn sbb)) (ws' := (wMS oa tra tra1 tra2 tra3 tia tia1 tia2 tia3 rua rua1 rua2 rua3 rua4 cha cha1 cha2 cha3 foa foa1 foa2 sba cI cZ cB cC ocs oal olt ols trso trob trme trwi tiso tiob time tiwi run ruki ruta rupr runu chn chpu chco chwe fon fose fosu sbco sbml sbct sb_ad sbn sbb)) (va_runV (As := [.int v1]) (rest := []) ⟨hx, hb, hml, hown, hts⟩ (kK6_charAt l D cI cZ cB cC H.size sba sbco sbml sbct sb_ad sbn sbb v1 x3 ec4) (cwV 1 hts (gdV2 (up wdt3_168) (up wdt3_169) (up wdt3_170) (up wdt1_7) gzK6_charAt) rfl rfl rfl (by decide +kernel) ⟨Nat.le_of_ble_eq_true rfl, Nat.le_of_ble_eq_true rfl⟩) ⟨PrE0_blind, va_recv hK hPc (ci := 6) (q0 := 0) rfl rfl, fun U hU hW => ⟨rfl, Pr_at hK hN hPc hDc hU hW, EN_at hE hS hFc hU hW⟩⟩ rfl rfl hl.1 rfl (lv_room (Nat.le_of_ble_eq_true rfl)) dK0_letter_23 ⟨Nat.le_of_ble_eq_true rfl, Nat.le_of_ble_eq_true rfl⟩) hP hD hS hA [21, 22] [0, 1, 2, 3, 4, 5, 6, 7, 8, 9, 10, 11, 12, 13, 14, 15, 16, 17, 18, 19, 20] [0, 1, 2, 3, 4, 5, 6, 7, 8, 9, 10, 11, 12, 13, 14, 15, 16, 17, 18, 19, 20, 21, 22] rfl rfl (by decide) (by decide) (by decide) rfl (fun H locs hP hD hS => ?_)
      replace hm := Option.some.inj hm
      subst hm
      exact k_reti hx hb hr hlocks hP hD hS dK0_letter_26
    · replace hm := iff_ hm hc
      refine lv_bipush (v := (-2)) hx hb dK0_letter_15 (by decide) ?_
      replace hm := Option.some.inj hm
      subst hm
      exact k_reti hx hb hr hlocks hP hD hS dK0_letter_17
