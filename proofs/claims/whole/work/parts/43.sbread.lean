def mJ7_newLength (v0 : Int32) (v1 : Int32) (v2 : Int32) : Option (Int32) :=
  bd1 (some (v0 + (imax v1 v2))) fun x1 => if x1 ≤ 0 then
  (none)
  else
  (if 2147483639 < x1 then
    (none)
    else
    (some x1))
abbrev rmJ7_newLength : Room := { frames := 1, cells := 0, slots := 0, locals := 21 }
set_option maxHeartbeats 4000000 in
set_option maxRecDepth 100000 in
theorem kJ7_newLength (l : Launch) (D : va_G) (cI cZ cB cC : ClassId) (sz : Nat) (v0 : Int32) (v1 : Int32) (v2 : Int32) (r0 : Int32) (hm : mJ7_newLength v0 v1 v2 = some r0) : Met l yJ7_newLength wzJ7_newLength rmJ7_newLength (va_Pc [.int v0, .int v1, .int v2] (Pr D (tyL cI cZ cB cC) sz [])) (QI D (va_A [] sz) r0 []) 0 0 (va_A [] sz) := by
  refine Met.ofW (cc := cJ7_newLength) (maxL := 4) (ret := (some .int)) (by decide) rfl ?_
  intro p e s m args below meth c s₁ B hml hv
  obtain ⟨rfl, hsz, hP, hK, hD0, hN⟩ := hv
  have hx := B.exec
  have hb := B.bytes
  have hr := B.returns
  have hts := htsB (atoms_spec (ws := wzJ7_newLength) B.pre)
  have hown : s.vm.findClass RJ7 = some m.cls := findClass_of_methodNamed B.named
  have hlocks := B.notSynchronized
  subst hsz
  have hD := hD0.self (sz := s.heap.size)
  generalize hAe : va_A [] s.heap.size = A at hD ⊢
  have hA : ∀ q : Nat, s.heap.size ≤ q → A q := fun q h => by rw [← hAe]; exact Or.inr h
  refine kstart (A := A) hP (fun H hP hS => ?_)
  have hl := lv_entry ([.int v0, .int v1, .int v2]) (n := 4) (Nat.le_of_ble_eq_true rfl)
  rw [lg_entry_eq]
  generalize (lg_sl ([.int v0, .int v1, .int v2]) ++ List.replicate (4 - (lg_sl ([.int v0, .int v1, .int v2])).length) Slot.unset).toArray = ls at hl ⊢
  have hl : lv_has ls 4 [(0, .int v0), (1, .int v1), (2, .int v2)] := hl
  unfold mJ7_newLength at hm
  refine lv_iload_n hx hb dJ7_newLength_0 rfl (lv_at hl 0 rfl) ?_
  refine lv_iload_n hx hb dJ7_newLength_1 rfl (lv_at hl 1 rfl) ?_
  refine lv_iload_n hx hb dJ7_newLength_2 rfl (lv_at hl 2 rfl) ?_
  refine va_mmax hx hb (by rw [hml]; exact hl.1.symm) hown (hts _ (up wdt2_223)) (hts _ (up wdt2_224)) (hts _ (up wdt1_13)) (hts _ (up wdt2_225)) (Nat.le_of_ble_eq_true rfl) (Nat.le_of_ble_eq_true rfl) (Nat.le_of_ble_eq_true rfl) (Nat.le_of_ble_eq_true rfl) dJ7_newLength_3 ?_
  refine topi (y := imax v1 v2) rfl ?_
  refine lv_iadd hx hb dJ7_newLength_6 ?_
  obtain ⟨x1, ex1, hm⟩ := bd1_s hm
  refine topi (Option.some.inj ex1) ?_
  refine lv_istore_n (lv' := [(3, .int x1), (0, .int v0), (1, .int v1), (2, .int v2)]) hx hb dJ7_newLength_7 rfl hl (by decide) rfl (fun ls hl => ?_)
  refine lv_iconst (v := 0) hx hb dJ7_newLength_8 (by decide) ?_
  refine lv_iload_n hx hb dJ7_newLength_9 rfl (lv_at hl 0 rfl) ?_
  refine lv_icmp_ge (tgt := 21) hx hb dJ7_newLength_10 (by decide) (fun hc => ?_) (fun hc => ?_)
  · replace hm := ift hm hc
    refine lv_iload_n hx hb dJ7_newLength_21 rfl (lv_at hl 1 rfl) ?_
    refine lv_iload_n hx hb dJ7_newLength_22 rfl (lv_at hl 2 rfl) ?_
    exact nomatch hm
  · replace hm := iff_ hm hc
    refine lv_iload_n hx hb dJ7_newLength_13 rfl (lv_at hl 0 rfl) ?_
    refine lv_ldc (v := 2147483639) hx hb hown (hts _ (up wdt2_226)) dJ7_newLength_14 ?_
    refine lv_icmp_gt (tgt := 21) hx hb dJ7_newLength_16 (by decide) (fun hc => ?_) (fun hc => ?_)
    · replace hm := ift hm hc
      refine lv_iload_n hx hb dJ7_newLength_21 rfl (lv_at hl 1 rfl) ?_
      refine lv_iload_n hx hb dJ7_newLength_22 rfl (lv_at hl 2 rfl) ?_
      exact nomatch hm
    · replace hm := iff_ hm hc
      refine lv_iload_n hx hb dJ7_newLength_19 rfl (lv_at hl 0 rfl) ?_
      replace hm := Option.some.inj hm
      subst hm
      exact k_reti hx hb hr hlocks hP hD hS dJ7_newLength_20
def mJ1_isLatin1 (sco : Int32) : Option (Int32) :=
  if (1 : Int32) = 0 then
  (some 0)
  else
  (if sco = 0 then
    (some 1)
    else
    (some 0))
abbrev rmJ1_isLatin1 : Room := { frames := 0, cells := 0, slots := 0, locals := 0 }
set_option maxHeartbeats 4000000 in
set_option maxRecDepth 100000 in
theorem kJ1_isLatin1 (l : Launch) (D : va_G) (cI cZ cB cC : ClassId) (sz : Nat) (sa : Nat) (sco : Int32) (sml : Int32) (sct : Int32) (s_ad : Nat) (sn : Nat) (sb : Nat → Int32) (r0 : Int32) (hm : mJ1_isLatin1 sco = some r0) : Met l yJ1_isLatin1 wzJ1_isLatin1 rmJ1_isLatin1 (va_Pc [.ref sa] (PrE0 D (tyL cI cZ cB cC) sz (wS sa cI cZ cB cC sco sml sct s_ad sn sb))) (QI D (va_A (wS sa cI cZ cB cC sco sml sct s_ad sn sb) sz) r0 (wS sa cI cZ cB cC sco sml sct s_ad sn sb)) 0 0 (va_A (wS sa cI cZ cB cC sco sml sct s_ad sn sb) sz) := by
  refine Met.ofW (cc := cJ1_isLatin1) (maxL := 1) (ret := (some .boolean)) (by decide) rfl ?_
  intro p e s m args below meth c s₁ B hml hv
  obtain ⟨rfl, ⟨hsz, hP, hK, hD0, hN⟩, hE⟩ := hv
  have hx := B.exec
  have hb := B.bytes
  have hr := B.returns
  have hts := htsB (atoms_spec (ws := wzJ1_isLatin1) B.pre)
  have hown : s.vm.findClass RJ1 = some m.cls := findClass_of_methodNamed B.named
  have hlocks := B.notSynchronized
  subst hsz
  have hD := hD0.self (sz := s.heap.size)
  generalize hAe : va_A (wS sa cI cZ cB cC sco sml sct s_ad sn sb) s.heap.size = A at hD hE ⊢
  have hA : ∀ q : Nat, s.heap.size ≤ q → A q := fun q h => by rw [← hAe]; exact Or.inr h
  refine kstart (A := A) hP (fun H hP hS => ?_)
  have hl := lv_entry ([.ref sa]) (n := 1) (Nat.le_of_ble_eq_true rfl)
  rw [lg_entry_eq]
  generalize (lg_sl ([.ref sa]) ++ List.replicate (1 - (lg_sl ([.ref sa])).length) Slot.unset).toArray = ls at hl ⊢
  have hl : lv_has ls 1 [(0, .ref sa)] := hl
  unfold mJ1_isLatin1 at hm
  obtain ⟨hE0z, ⟨dg1, hE1z, hE1t⟩, ⟨dg2, hE2z, hE2t⟩, hE4, ⟨ka0, kv0, hkr0, hk0⟩, ⟨ka1, kv1, hkr1, hk1⟩, ⟨ka2, kv2, hkr2, hk2⟩⟩ := id hE
  refine va_gets hx hb hE.1 hS hown (hts _ (up wdt1_120)) (fun _ h9 => h9) dJ1_isLatin1_0 ?_
  refine lv_if_eq (tgt := 17) hx hb dJ1_isLatin1_3 (by decide) (fun hc => ?_) (fun hc => ?_)
  · replace hm := ift hm hc
    refine lv_iconst (v := 0) hx hb dJ1_isLatin1_17 (by decide) ?_
    replace hm := Option.some.inj hm
    subst hm
    exact k_retz hx hb hr hlocks rfl hP hD hS dJ1_isLatin1_18
  · replace hm := iff_ hm hc
    refine lv_aload_n hx hb dJ1_isLatin1_6 rfl (lv_at hl 0 rfl) ?_
    refine va_get (D := D) (ci := 6) (v := .int sco) (C := RK6) (T := TK6) (N := 4) hx hb hts inK6b hown hK hP 0 rfl rfl 1 (by decide) (hts _ (up wdt1_130)) (fun _ h9 => h9) rfl dJ1_isLatin1_7 ?_
    refine lv_if_ne (tgt := 17) hx hb dJ1_isLatin1_10 (by decide) (fun hc => ?_) (fun hc => ?_)
    · replace hm := iff_ hm hc
      refine lv_iconst (v := 0) hx hb dJ1_isLatin1_17 (by decide) ?_
      replace hm := Option.some.inj hm
      subst hm
      exact k_retz hx hb hr hlocks rfl hP hD hS dJ1_isLatin1_18
    · replace hm := ift hm hc
      refine lv_iconst (v := 1) hx hb dJ1_isLatin1_13 (by decide) ?_
      refine lv_goto (tgt := 18) hx hb dJ1_isLatin1_14 (by decide) ?_
      replace hm := Option.some.inj hm
      subst hm
      exact k_retz hx hb hr hlocks rfl hP hD hS dJ1_isLatin1_18
def mJ1_newCapacity (sco : Int32) (sn : Nat) (v1 : Int32) : Option (Int32) :=
  bd1 (some (nI sn)) fun x1 => bd1 (some (v1 <<< (sco &&& 31))) fun x2 => bd1 (some (x2 - x1)) fun x3 => bd1 (mJ7_newLength x1 x3 (x1 + (2 <<< (sco &&& 31)))) fun x4 => if x4 = 2147483647 then
  (none)
  else
  (some (x4 >>> (sco &&& 31)))
abbrev rmJ1_newCapacity : Room := { frames := 2, cells := 0, slots := 0, locals := 44 }
set_option maxHeartbeats 4000000 in
set_option maxRecDepth 100000 in
theorem kJ1_newCapacity (l : Launch) (D : va_G) (cI cZ cB cC : ClassId) (sz : Nat) (sa : Nat) (sco : Int32) (sml : Int32) (sct : Int32) (s_ad : Nat) (sn : Nat) (sb : Nat → Int32) (v1 : Int32) (r0 : Int32) (hm : mJ1_newCapacity sco sn v1 = some r0) : Met l yJ1_newCapacity wzJ1_newCapacity rmJ1_newCapacity (va_Pc [.ref sa, .int v1] (PrE0 D (tyL cI cZ cB cC) sz (wS sa cI cZ cB cC sco sml sct s_ad sn sb))) (QI D (va_A (wS sa cI cZ cB cC sco sml sct s_ad sn sb) sz) r0 (wS sa cI cZ cB cC sco sml sct s_ad sn sb)) 0 0 (va_A (wS sa cI cZ cB cC sco sml sct s_ad sn sb) sz) := by
  refine Met.ofW (cc := cJ1_newCapacity) (maxL := 6) (ret := (some .int)) (by decide) rfl ?_
  intro p e s m args below meth c s₁ B hml hv
  obtain ⟨rfl, ⟨hsz, hP, hK, hD0, hN⟩, hE⟩ := hv
  have hx := B.exec
  have hb := B.bytes
  have hr := B.returns
  have hts := htsB (atoms_spec (ws := wzJ1_newCapacity) B.pre)
  have hown : s.vm.findClass RJ1 = some m.cls := findClass_of_methodNamed B.named
  have hlocks := B.notSynchronized
  subst hsz
  have hD := hD0.self (sz := s.heap.size)
  generalize hAe : va_A (wS sa cI cZ cB cC sco sml sct s_ad sn sb) s.heap.size = A at hD hE ⊢
  have hA : ∀ q : Nat, s.heap.size ≤ q → A q := fun q h => by rw [← hAe]; exact Or.inr h
  refine kstart (A := A) hP (fun H hP hS => ?_)
  have hl := lv_entry ([.ref sa, .int v1]) (n := 6) (Nat.le_of_ble_eq_true rfl)
  rw [lg_entry_eq]
  generalize (lg_sl ([.ref sa, .int v1]) ++ List.replicate (6 - (lg_sl ([.ref sa, .int v1])).length) Slot.unset).toArray = ls at hl ⊢
  have hl : lv_has ls 6 [(0, .ref sa), (1, .int v1)] := hl
  unfold mJ1_newCapacity at hm
  obtain ⟨hE0z, ⟨dg1, hE1z, hE1t⟩, ⟨dg2, hE2z, hE2t⟩, hE4, ⟨ka0, kv0, hkr0, hk0⟩, ⟨ka1, kv1, hkr1, hk1⟩, ⟨ka2, kv2, hkr2, hk2⟩⟩ := id hE
  refine lv_aload_n hx hb dJ1_newCapacity_0 rfl (lv_at hl 0 rfl) ?_
  refine va_get (D := D) (ci := 6) (v := .ref s_ad) (C := RK6) (T := TK6) (N := 4) hx hb hts inK6b hown hK hP 0 rfl rfl 0 (by decide) (hts _ (up wdt1_129)) (fun _ h9 => h9) rfl dJ1_newCapacity_1 ?_
  refine va_alen hx hb hK hP 1 2 rfl rfl (v := nI sn) rfl dJ1_newCapacity_4 ?_
  obtain ⟨x1, ex1, hm⟩ := bd1_s hm
  refine topi (Option.some.inj ex1) ?_
  refine lv_istore_n (lv' := [(2, .int x1), (0, .ref sa), (1, .int v1)]) hx hb dJ1_newCapacity_5 rfl hl (by decide) rfl (fun ls hl => ?_)
  refine lv_iload_n hx hb dJ1_newCapacity_6 rfl (lv_at hl 2 rfl) ?_
  refine lv_aload_n hx hb dJ1_newCapacity_7 rfl (lv_at hl 1 rfl) ?_
  refine va_get (D := D) (ci := 6) (v := .int sco) (C := RK6) (T := TK6) (N := 4) hx hb hts inK6b hown hK hP 0 rfl rfl 1 (by decide) (hts _ (up wdt1_130)) (fun _ h9 => h9) rfl dJ1_newCapacity_8 ?_
  refine lv_ishl hx hb dJ1_newCapacity_11 ?_
  obtain ⟨x2, ex2, hm⟩ := bd1_s hm
  refine topi (Option.some.inj ex2) ?_
  refine lv_istore_n (lv' := [(3, .int x2), (2, .int x1), (0, .ref sa), (1, .int v1)]) hx hb dJ1_newCapacity_12 rfl hl (by decide) rfl (fun ls hl => ?_)
  refine lv_iload_n hx hb dJ1_newCapacity_13 rfl (lv_at hl 0 rfl) ?_
  refine lv_iload_n hx hb dJ1_newCapacity_14 rfl (lv_at hl 1 rfl) ?_
  refine lv_isub hx hb dJ1_newCapacity_15 ?_
  obtain ⟨x3, ex3, hm⟩ := bd1_s hm
  refine topi (Option.some.inj ex3) ?_
  refine lv_istore (lv' := [(4, .int x3), (3, .int x2), (2, .int x1), (0, .ref sa), (1, .int v1)]) hx hb dJ1_newCapacity_16 hl (by decide) rfl (fun ls hl => ?_)
  refine lv_iload_n hx hb dJ1_newCapacity_18 rfl (lv_at hl 2 rfl) ?_
  refine lv_iload hx hb dJ1_newCapacity_19 (lv_at hl 0 rfl) ?_
  refine lv_iload_n hx hb dJ1_newCapacity_21 rfl (lv_at hl 2 rfl) ?_
  refine lv_iconst (v := 2) hx hb dJ1_newCapacity_22 (by decide) ?_
  refine lv_aload_n hx hb dJ1_newCapacity_23 rfl (lv_at hl 3 rfl) ?_
  refine va_get (D := D) (ci := 6) (v := .int sco) (C := RK6) (T := TK6) (N := 4) hx hb hts inK6b hown hK hP 0 rfl rfl 1 (by decide) (hts _ (up wdt1_130)) (fun _ h9 => h9) rfl dJ1_newCapacity_24 ?_
  refine lv_ishl hx hb dJ1_newCapacity_27 ?_
  refine lv_iadd hx hb dJ1_newCapacity_28 ?_
  obtain ⟨x4, ec5, hm⟩ := bd1_s hm
  have hPc : va_P D vwCl [] H := va_P0
  have hDc : va_D A [] := va_D0
  refine k_calli0 (va_runS (As := [.int x1, .int x3, .int (x1 + (2 <<< (sco &&& 31)))]) (rest := []) ⟨hx, hb, hml, hown, hts⟩ (kJ7_newLength l D cI cZ cB cC H.size x1 x3 (x1 + (2 <<< (sco &&& 31))) x4 ec5) (va_cwS 3 hts (gdS2 (up wdt2_220) (up wdt2_221) (up wdt1_15) gzJ7_newLength) rfl rfl rfl (by decide +kernel) ⟨Nat.le_of_ble_eq_true rfl, Nat.le_of_ble_eq_true rfl⟩) ⟨Pr_blind, fun U hU hW => ⟨rfl, Pr_at hK hN hPc hDc hU hW⟩⟩ rfl rfl hl.1 rfl (lv_room (Nat.le_of_ble_eq_true rfl)) dJ1_newCapacity_29 ⟨Nat.le_of_ble_eq_true rfl, Nat.le_of_ble_eq_true rfl⟩) hP hD hS hA (fun H locs hP hD hS => ?_)
  refine lv_istore (lv' := [(5, .int x4), (4, .int x3), (3, .int x2), (2, .int x1), (0, .ref sa), (1, .int v1)]) hx hb dJ1_newCapacity_32 hl (by decide) rfl (fun ls hl => ?_)
  refine lv_iload hx hb dJ1_newCapacity_34 (lv_at hl 0 rfl) ?_
  refine lv_ldc (v := 2147483647) hx hb hown (hts _ (up wdt2_230)) dJ1_newCapacity_36 ?_
  refine lv_icmp_ne (tgt := 51) hx hb dJ1_newCapacity_38 (by decide) (fun hc => ?_) (fun hc => ?_)
  · replace hm := iff_ hm hc
    refine lv_iload hx hb dJ1_newCapacity_51 (lv_at hl 0 rfl) ?_
    refine lv_aload_n hx hb dJ1_newCapacity_53 rfl (lv_at hl 4 rfl) ?_
    refine va_get (D := D) (ci := 6) (v := .int sco) (C := RK6) (T := TK6) (N := 4) hx hb hts inK6b hown hK hP 0 rfl rfl 1 (by decide) (hts _ (up wdt1_130)) (fun _ h9 => h9) rfl dJ1_newCapacity_54 ?_
    refine lv_ishr hx hb dJ1_newCapacity_57 ?_
    replace hm := Option.some.inj hm
    subst hm
    exact k_reti hx hb hr hlocks hP hD hS dJ1_newCapacity_58
  · replace hm := ift hm hc
    exact nomatch hm
def mJ1_ens0 (sco : Int32) (sn : Nat) (v1 : Int32) : Option (Unit) :=
  bd1 (some ((nI sn) >>> (sco &&& 31))) fun x1 => if (v1 - x1) ≤ 0 then
  (some ())
  else
  (bd1 (mJ1_newCapacity sco sn v1) fun x2 => none)
abbrev rmJ1_ens0 : Room := { frames := 3, cells := 0, slots := 0, locals := 69 }
set_option maxHeartbeats 4000000 in
set_option maxRecDepth 100000 in
theorem kJ1_ens0 (l : Launch) (D : va_G) (cI cZ cB cC : ClassId) (sz : Nat) (sa : Nat) (sco : Int32) (sml : Int32) (sct : Int32) (s_ad : Nat) (sn : Nat) (sb : Nat → Int32) (v1 : Int32) (hm : mJ1_ens0 sco sn v1 = some ()) : Met l yJ1_ensureCapacityInternal wzJ1_ensureCapacityInternal rmJ1_ens0 (va_Pc [.ref sa, .int v1] (PrE0 D (tyL cI cZ cB cC) sz (wS sa cI cZ cB cC sco sml sct s_ad sn sb))) (QV D (va_A (wS sa cI cZ cB cC sco sml sct s_ad sn sb) sz) (wS sa cI cZ cB cC sco sml sct s_ad sn sb)) 0 0 (va_A (wS sa cI cZ cB cC sco sml sct s_ad sn sb) sz) := by
  refine Met.ofW (cc := cJ1_ensureCapacityInternal) (maxL := 3) (ret := none) (by decide) rfl ?_
  intro p e s m args below meth c s₁ B hml hv
  obtain ⟨rfl, ⟨hsz, hP, hK, hD0, hN⟩, hE⟩ := hv
  have hx := B.exec
  have hb := B.bytes
  have hr := B.returns
  have hts := htsB (atoms_spec (ws := wzJ1_ensureCapacityInternal) B.pre)
  have hown : s.vm.findClass RJ1 = some m.cls := findClass_of_methodNamed B.named
  have hlocks := B.notSynchronized
  subst hsz
  have hD := hD0.self (sz := s.heap.size)
  generalize hAe : va_A (wS sa cI cZ cB cC sco sml sct s_ad sn sb) s.heap.size = A at hD hE ⊢
  have hA : ∀ q : Nat, s.heap.size ≤ q → A q := fun q h => by rw [← hAe]; exact Or.inr h
  refine kstart (A := A) hP (fun H hP hS => ?_)
  have hl := lv_entry ([.ref sa, .int v1]) (n := 3) (Nat.le_of_ble_eq_true rfl)
  rw [lg_entry_eq]
  generalize (lg_sl ([.ref sa, .int v1]) ++ List.replicate (3 - (lg_sl ([.ref sa, .int v1])).length) Slot.unset).toArray = ls at hl ⊢
  have hl : lv_has ls 3 [(0, .ref sa), (1, .int v1)] := hl
  unfold mJ1_ens0 at hm
  obtain ⟨hE0z, ⟨dg1, hE1z, hE1t⟩, ⟨dg2, hE2z, hE2t⟩, hE4, ⟨ka0, kv0, hkr0, hk0⟩, ⟨ka1, kv1, hkr1, hk1⟩, ⟨ka2, kv2, hkr2, hk2⟩⟩ := id hE
  refine lv_aload_n hx hb dJ1_ens0_0 rfl (lv_at hl 0 rfl) ?_
  refine va_get (D := D) (ci := 6) (v := .ref s_ad) (C := RK6) (T := TK6) (N := 4) hx hb hts inK6b hown hK hP 0 rfl rfl 0 (by decide) (hts _ (up wdt1_129)) (fun _ h9 => h9) rfl dJ1_ens0_1 ?_
  refine va_alen hx hb hK hP 1 2 rfl rfl (v := nI sn) rfl dJ1_ens0_4 ?_
  refine lv_aload_n hx hb dJ1_ens0_5 rfl (lv_at hl 0 rfl) ?_
  refine va_get (D := D) (ci := 6) (v := .int sco) (C := RK6) (T := TK6) (N := 4) hx hb hts inK6b hown hK hP 0 rfl rfl 1 (by decide) (hts _ (up wdt1_130)) (fun _ h9 => h9) rfl dJ1_ens0_6 ?_
  refine lv_ishr hx hb dJ1_ens0_9 ?_
  obtain ⟨x1, ex1, hm⟩ := bd1_s hm
  refine topi (Option.some.inj ex1) ?_
  refine lv_istore_n (lv' := [(2, .int x1), (0, .ref sa), (1, .int v1)]) hx hb dJ1_ens0_10 rfl hl (by decide) rfl (fun ls hl => ?_)
  refine lv_iload_n hx hb dJ1_ens0_11 rfl (lv_at hl 2 rfl) ?_
  refine lv_iload_n hx hb dJ1_ens0_12 rfl (lv_at hl 0 rfl) ?_
  refine lv_isub hx hb dJ1_ens0_13 ?_
  refine lv_if_le (tgt := 38) hx hb dJ1_ens0_14 (by decide) (fun hc => ?_) (fun hc => ?_)
  · replace hm := ift hm hc
    replace hm := Option.some.inj hm
    exact k_retv hx hb hr hlocks hP hD hS dJ1_ens0_38
  · replace hm := iff_ hm hc
    refine lv_aload_n hx hb dJ1_ens0_17 rfl (lv_at hl 1 rfl) ?_
    refine lv_aload_n hx hb dJ1_ens0_18 rfl (lv_at hl 1 rfl) ?_
    refine va_get (D := D) (ci := 6) (v := .ref s_ad) (C := RK6) (T := TK6) (N := 4) hx hb hts inK6b hown hK hP 0 rfl rfl 0 (by decide) (hts _ (up wdt1_129)) (fun _ h9 => h9) rfl dJ1_ens0_19 ?_
    refine lv_aload_n hx hb dJ1_ens0_22 rfl (lv_at hl 1 rfl) ?_
    refine lv_iload_n hx hb dJ1_ens0_23 rfl (lv_at hl 2 rfl) ?_
    obtain ⟨x2, ec3, hm⟩ := bd1_s hm
    have hPc := hP.sub (ws' := (wS sa cI cZ cB cC sco sml sct s_ad sn sb)) [0, 1] rfl
    have hDc := hD.sub (ws' := (wS sa cI cZ cB cC sco sml sct s_ad sn sb)) [0, 1] (by decide) rfl
    have hFc := va_free (wc := (wS sa cI cZ cB cC sco sml sct s_ad sn sb)) hD hS hA [0, 1] rfl
    refine k_calli (wr := []) (w1 := (wS sa cI cZ cB cC sco sml sct s_ad sn sb)) (ws' := (wS sa cI cZ cB cC sco sml sct s_ad sn sb)) (va_runU (As := [.int v1]) (rest := [.ref s_ad, .ref sa]) ⟨hx, hb, hml, hown, hts⟩ (kJ1_newCapacity l D cI cZ cB cC H.size sa sco sml sct s_ad sn sb v1 x2 ec3) (va_cwU (C := RK6) (owner := RJ1) 1 hts (gdU2 (up wdt2_216) (up wdt4_205) (List.mem_append_left _ (List.mem_of_getElem? (l := sbSel) (i := 1) rfl)) (up wdt2_218) (up wdt1_6) gzJ1_newCapacity) rfl rfl rfl rfl (by decide +kernel) ⟨Nat.le_of_ble_eq_true rfl, Nat.le_of_ble_eq_true rfl⟩) ⟨PrE0_blind, va_recv hK hPc (ci := 6) (q0 := 0) rfl rfl, fun U hU hW => ⟨rfl, Pr_at hK hN hPc hDc hU hW, EN_at hE hS hFc hU hW⟩⟩ rfl rfl hl.1 rfl (lv_room (Nat.le_of_ble_eq_true rfl)) dJ1_ens0_24 ⟨Nat.le_of_ble_eq_true rfl, Nat.le_of_ble_eq_true rfl⟩) hP hD hS hA [0, 1] [] [0, 1] rfl rfl (by decide) (by decide) (by decide) rfl (fun H locs hP hD hS => ?_)
    refine lv_aload_n hx hb dJ1_ens0_27 rfl (lv_at hl 1 rfl) ?_
    refine va_get (D := D) (ci := 6) (v := .int sco) (C := RK6) (T := TK6) (N := 4) hx hb hts inK6b hown hK hP 0 rfl rfl 1 (by decide) (hts _ (up wdt1_130)) (fun _ h9 => h9) rfl dJ1_ens0_28 ?_
    refine lv_ishl hx hb dJ1_ens0_31 ?_
    exact nomatch hm
def mJ1_setLength (sco : Int32) (sml : Int32) (sct : Int32) (sn : Nat) (v1 : Int32) : Option (Int32 × Int32) :=
  if 0 ≤ v1 then
  (bd0 (mJ1_ens0 sco sn v1) <| if v1 ≤ sct then
    (if sct ≤ v1 then
      (some (sml, v1))
      else
      (some (1, v1)))
    else
    (bd1 (mJ1_isLatin1 sco) fun x2 => if x2 = 0 then
      (none)
      else
      (none)))
  else
  (none)
abbrev rmJ1_setLength : Room := { frames := 4, cells := 0, slots := 0, locals := 91 }
set_option maxHeartbeats 4000000 in
set_option maxRecDepth 100000 in
theorem kJ1_setLength (l : Launch) (D : va_G) (cI cZ cB cC : ClassId) (sz : Nat) (sa : Nat) (sco : Int32) (sml : Int32) (sct : Int32) (s_ad : Nat) (sn : Nat) (sb : Nat → Int32) (v1 : Int32) (sml_r : Int32) (sct_r : Int32) (hm : mJ1_setLength sco sml sct sn v1 = some (sml_r, sct_r)) : Met l yJ1_setLength wzJ1_setLength rmJ1_setLength (va_Pc [.ref sa, .int v1] (PrE0 D (tyL cI cZ cB cC) sz (wS sa cI cZ cB cC sco sml sct s_ad sn sb))) (QV D (va_A (wS sa cI cZ cB cC sco sml sct s_ad sn sb) sz) (wS sa cI cZ cB cC sco sml_r sct_r s_ad sn sb)) 0 0 (va_A (wS sa cI cZ cB cC sco sml sct s_ad sn sb) sz) := by
  refine Met.ofW (cc := cJ1_setLength) (maxL := 2) (ret := none) (by decide) rfl ?_
  intro p e s m args below meth c s₁ B hml hv
  obtain ⟨rfl, ⟨hsz, hP, hK, hD0, hN⟩, hE⟩ := hv
  have hx := B.exec
  have hb := B.bytes
  have hr := B.returns
  have hts := htsB (atoms_spec (ws := wzJ1_setLength) B.pre)
  have hown : s.vm.findClass RJ1 = some m.cls := findClass_of_methodNamed B.named
  have hlocks := B.notSynchronized
  subst hsz
  have hD := hD0.self (sz := s.heap.size)
  generalize hAe : va_A (wS sa cI cZ cB cC sco sml sct s_ad sn sb) s.heap.size = A at hD hE ⊢
  have hA : ∀ q : Nat, s.heap.size ≤ q → A q := fun q h => by rw [← hAe]; exact Or.inr h
  refine kstart (A := A) hP (fun H hP hS => ?_)
  have hl := lv_entry ([.ref sa, .int v1]) (n := 2) (Nat.le_of_ble_eq_true rfl)
  rw [lg_entry_eq]
  generalize (lg_sl ([.ref sa, .int v1]) ++ List.replicate (2 - (lg_sl ([.ref sa, .int v1])).length) Slot.unset).toArray = ls at hl ⊢
  have hl : lv_has ls 2 [(0, .ref sa), (1, .int v1)] := hl
  unfold mJ1_setLength at hm
  obtain ⟨hE0z, ⟨dg1, hE1z, hE1t⟩, ⟨dg2, hE2z, hE2t⟩, hE4, ⟨ka0, kv0, hkr0, hk0⟩, ⟨ka1, kv1, hkr1, hk1⟩, ⟨ka2, kv2, hkr2, hk2⟩⟩ := id hE
  refine lv_iload_n hx hb dJ1_setLength_0 rfl (lv_at hl 1 rfl) ?_
  refine lv_if_ge (tgt := 13) hx hb dJ1_setLength_1 (by decide) (fun hc => ?_) (fun hc => ?_)
  · replace hm := ift hm hc
    refine lv_aload_n hx hb dJ1_setLength_13 rfl (lv_at hl 0 rfl) ?_
    refine lv_iload_n hx hb dJ1_setLength_14 rfl (lv_at hl 1 rfl) ?_
    obtain ⟨ec1, hm⟩ := bd0_s hm
    have hPc := hP.sub (ws' := (wS sa cI cZ cB cC sco sml sct s_ad sn sb)) [0, 1] rfl
    have hDc := hD.sub (ws' := (wS sa cI cZ cB cC sco sml sct s_ad sn sb)) [0, 1] (by decide) rfl
    have hFc := va_free (wc := (wS sa cI cZ cB cC sco sml sct s_ad sn sb)) hD hS hA [0, 1] rfl
    refine k_callv (wr := []) (w1 := (wS sa cI cZ cB cC sco sml sct s_ad sn sb)) (ws' := (wS sa cI cZ cB cC sco sml sct s_ad sn sb)) (va_runU (As := [.int v1]) (rest := []) ⟨hx, hb, hml, hown, hts⟩ (kJ1_ens0 l D cI cZ cB cC H.size sa sco sml sct s_ad sn sb v1 ec1) (va_cwU (C := RK6) (owner := RJ1) 1 hts (gdU2 (up wdt2_212) (up wdt4_204) (List.mem_append_left _ (List.mem_of_getElem? (l := sbSel) (i := 0) rfl)) (up wdt2_214) (up wdt1_6) gzJ1_ensureCapacityInternal) rfl rfl rfl rfl (by decide +kernel) ⟨Nat.le_of_ble_eq_true rfl, Nat.le_of_ble_eq_true rfl⟩) ⟨PrE0_blind, va_recv hK hPc (ci := 6) (q0 := 0) rfl rfl, fun U hU hW => ⟨rfl, Pr_at hK hN hPc hDc hU hW, EN_at hE hS hFc hU hW⟩⟩ rfl rfl hl.1 rfl (lv_room (Nat.le_of_ble_eq_true rfl)) dJ1_setLength_15 ⟨Nat.le_of_ble_eq_true rfl, Nat.le_of_ble_eq_true rfl⟩) hP hD hS hA [0, 1] [] [0, 1] rfl rfl (by decide) (by decide) (by decide) rfl (fun H locs hP hD hS => ?_)
    refine lv_aload_n hx hb dJ1_setLength_18 rfl (lv_at hl 0 rfl) ?_
    refine va_get (D := D) (ci := 6) (v := .int sct) (C := RK6) (T := TK6) (N := 4) hx hb hts inK6b hown hK hP 0 rfl rfl 3 (by decide) (hts _ (up wdt1_132)) (fun _ h9 => h9) rfl dJ1_setLength_19 ?_
    refine lv_iload_n hx hb dJ1_setLength_22 rfl (lv_at hl 1 rfl) ?_
    refine lv_icmp_ge (tgt := 63) hx hb dJ1_setLength_23 (by decide) (fun hc => ?_) (fun hc => ?_)
    · replace hm := ift hm hc
      refine lv_aload_n hx hb dJ1_setLength_63 rfl (lv_at hl 0 rfl) ?_
      refine va_get (D := D) (ci := 6) (v := .int sct) (C := RK6) (T := TK6) (N := 4) hx hb hts inK6b hown hK hP 0 rfl rfl 3 (by decide) (hts _ (up wdt1_132)) (fun _ h9 => h9) rfl dJ1_setLength_64 ?_
      refine lv_iload_n hx hb dJ1_setLength_67 rfl (lv_at hl 1 rfl) ?_
      refine lv_icmp_le (tgt := 76) hx hb dJ1_setLength_68 (by decide) (fun hc => ?_) (fun hc => ?_)
      · replace hm := ift hm hc
        refine lv_aload_n hx hb dJ1_setLength_76 rfl (lv_at hl 0 rfl) ?_
        refine lv_iload_n hx hb dJ1_setLength_77 rfl (lv_at hl 1 rfl) ?_
        refine va_put (D := D) (ci := 6) (v := .int v1) (ty := .int) (C := RK6) (T := TK6) (N := 4) hx hb hts inK6b tyK6 tyK6_ok nmK6 hown hK hP hD hS 0 rfl rfl 3 (by decide) (hts _ (up wdt1_132)) (fun _ h9 => h9) rfl (by decide +kernel) rfl rfl (Nat.le_of_ble_eq_true rfl) dJ1_setLength_78 (fun H locs hP hD hS => ?_)
        have hP : va_P D vwCl (wS sa cI cZ cB cC sco sml v1 s_ad sn sb) H := hP
        have hD : va_D A (wS sa cI cZ cB cC sco sml v1 s_ad sn sb) := hD
        replace hm := Option.some.inj hm
        simp only [Prod.mk.injEq] at hm
        obtain ⟨rfl, rfl⟩ := hm
        exact k_retv hx hb hr hlocks hP hD hS dJ1_setLength_81
      · replace hm := iff_ hm hc
        refine lv_aload_n hx hb dJ1_setLength_71 rfl (lv_at hl 0 rfl) ?_
        refine lv_iconst (v := 1) hx hb dJ1_setLength_72 (by decide) ?_
        refine va_put (D := D) (ci := 6) (v := .int 1) (ty := .boolean) (C := RK6) (T := TK6) (N := 4) hx hb hts inK6b tyK6 tyK6_ok nmK6 hown hK hP hD hS 0 rfl rfl 2 (by decide) (hts _ (up wdt1_131)) (fun _ h9 => h9) rfl (by decide +kernel) rfl rfl (Nat.le_of_ble_eq_true rfl) dJ1_setLength_73 (fun H locs hP hD hS => ?_)
        have hP : va_P D vwCl (wS sa cI cZ cB cC sco 1 sct s_ad sn sb) H := hP
        have hD : va_D A (wS sa cI cZ cB cC sco 1 sct s_ad sn sb) := hD
        refine lv_aload_n hx hb dJ1_setLength_76 rfl (lv_at hl 0 rfl) ?_
        refine lv_iload_n hx hb dJ1_setLength_77 rfl (lv_at hl 1 rfl) ?_
        refine va_put (D := D) (ci := 6) (v := .int v1) (ty := .int) (C := RK6) (T := TK6) (N := 4) hx hb hts inK6b tyK6 tyK6_ok nmK6 hown hK hP hD hS 0 rfl rfl 3 (by decide) (hts _ (up wdt1_132)) (fun _ h9 => h9) rfl (by decide +kernel) rfl rfl (Nat.le_of_ble_eq_true rfl) dJ1_setLength_78 (fun H locs hP hD hS => ?_)
        have hP : va_P D vwCl (wS sa cI cZ cB cC sco 1 v1 s_ad sn sb) H := hP
        have hD : va_D A (wS sa cI cZ cB cC sco 1 v1 s_ad sn sb) := hD
        replace hm := Option.some.inj hm
        simp only [Prod.mk.injEq] at hm
        obtain ⟨rfl, rfl⟩ := hm
        exact k_retv hx hb hr hlocks hP hD hS dJ1_setLength_81
    · replace hm := iff_ hm hc
      refine lv_aload_n hx hb dJ1_setLength_26 rfl (lv_at hl 0 rfl) ?_
      obtain ⟨x2, ec3, hm⟩ := bd1_s hm
      have hPc := hP.sub (ws' := (wS sa cI cZ cB cC sco sml sct s_ad sn sb)) [0, 1] rfl
      have hDc := hD.sub (ws' := (wS sa cI cZ cB cC sco sml sct s_ad sn sb)) [0, 1] (by decide) rfl
      have hFc := va_free (wc := (wS sa cI cZ cB cC sco sml sct s_ad sn sb)) hD hS hA [0, 1] rfl
      refine k_calli (wr := []) (w1 := (wS sa cI cZ cB cC sco sml sct s_ad sn sb)) (ws' := (wS sa cI cZ cB cC sco sml sct s_ad sn sb)) (va_runU (As := []) (rest := []) ⟨hx, hb, hml, hown, hts⟩ (kJ1_isLatin1 l D cI cZ cB cC H.size sa sco sml sct s_ad sn sb x2 ec3) (va_cwU (C := RK6) (owner := RJ1) 0 hts (gdU2 (up wdt3_3) (up wdt3_5) (up wdt3_6) (up wdt3_4) (up wdt1_6) gzJ1_isLatin1) rfl rfl rfl rfl (by decide +kernel) ⟨Nat.le_of_ble_eq_true rfl, Nat.le_of_ble_eq_true rfl⟩) ⟨PrE0_blind, va_recv hK hPc (ci := 6) (q0 := 0) rfl rfl, fun U hU hW => ⟨rfl, Pr_at hK hN hPc hDc hU hW, EN_at hE hS hFc hU hW⟩⟩ rfl rfl hl.1 rfl (lv_room (Nat.le_of_ble_eq_true rfl)) dJ1_setLength_27 ⟨Nat.le_of_ble_eq_true rfl, Nat.le_of_ble_eq_true rfl⟩) hP hD hS hA [0, 1] [] [0, 1] rfl rfl (by decide) (by decide) (by decide) rfl (fun H locs hP hD hS => ?_)
      refine lv_if_eq (tgt := 48) hx hb dJ1_setLength_30 (by decide) (fun hc => ?_) (fun hc => ?_)
      · replace hm := ift hm hc
        refine lv_aload_n hx hb dJ1_setLength_48 rfl (lv_at hl 0 rfl) ?_
        refine va_get (D := D) (ci := 6) (v := .ref s_ad) (C := RK6) (T := TK6) (N := 4) hx hb hts inK6b hown hK hP 0 rfl rfl 0 (by decide) (hts _ (up wdt1_129)) (fun _ h9 => h9) rfl dJ1_setLength_49 ?_
        refine lv_aload_n hx hb dJ1_setLength_52 rfl (lv_at hl 0 rfl) ?_
        refine va_get (D := D) (ci := 6) (v := .int sct) (C := RK6) (T := TK6) (N := 4) hx hb hts inK6b hown hK hP 0 rfl rfl 3 (by decide) (hts _ (up wdt1_132)) (fun _ h9 => h9) rfl dJ1_setLength_53 ?_
        refine lv_iload_n hx hb dJ1_setLength_56 rfl (lv_at hl 1 rfl) ?_
        exact nomatch hm
      · replace hm := iff_ hm hc
        refine lv_aload_n hx hb dJ1_setLength_33 rfl (lv_at hl 0 rfl) ?_
        refine va_get (D := D) (ci := 6) (v := .ref s_ad) (C := RK6) (T := TK6) (N := 4) hx hb hts inK6b hown hK hP 0 rfl rfl 0 (by decide) (hts _ (up wdt1_129)) (fun _ h9 => h9) rfl dJ1_setLength_34 ?_
        refine lv_aload_n hx hb dJ1_setLength_37 rfl (lv_at hl 0 rfl) ?_
        refine va_get (D := D) (ci := 6) (v := .int sct) (C := RK6) (T := TK6) (N := 4) hx hb hts inK6b hown hK hP 0 rfl rfl 3 (by decide) (hts _ (up wdt1_132)) (fun _ h9 => h9) rfl dJ1_setLength_38 ?_
        refine lv_iload_n hx hb dJ1_setLength_41 rfl (lv_at hl 1 rfl) ?_
        exact nomatch hm
  · replace hm := iff_ hm hc
    exact nomatch hm
def mK6_setLength (sco : Int32) (sml : Int32) (sct : Int32) (sn : Nat) (v1 : Int32) : Option (Int32 × Int32) :=
  bd2 (mJ1_setLength sco sml sct sn v1) fun x1 x2 => some (x1, x2)
abbrev rmK6_setLength : Room := { frames := 5, cells := 0, slots := 0, locals := 112 }
set_option maxHeartbeats 4000000 in
set_option maxRecDepth 100000 in
theorem kK6_setLength (l : Launch) (D : va_G) (cI cZ cB cC : ClassId) (sz : Nat) (sa : Nat) (sco : Int32) (sml : Int32) (sct : Int32) (s_ad : Nat) (sn : Nat) (sb : Nat → Int32) (v1 : Int32) (sml_r : Int32) (sct_r : Int32) (hm : mK6_setLength sco sml sct sn v1 = some (sml_r, sct_r)) : Met l yK6_setLength wzK6_setLength rmK6_setLength (va_Pc [.ref sa, .int v1] (PrE0 D (tyL cI cZ cB cC) sz (wS sa cI cZ cB cC sco sml sct s_ad sn sb))) (QV D (va_A (wS sa cI cZ cB cC sco sml sct s_ad sn sb) sz) (wS sa cI cZ cB cC sco sml_r sct_r s_ad sn sb)) 0 0 (va_A (wS sa cI cZ cB cC sco sml sct s_ad sn sb) sz) := by
  refine Met.ofW (cc := cK6_setLength) (maxL := 2) (ret := none) (by decide) rfl ?_
  intro p e s m args below meth c s₁ B hml hv
  obtain ⟨rfl, ⟨hsz, hP, hK, hD0, hN⟩, hE⟩ := hv
  have hx := B.exec
  have hb := B.bytes
  have hr := B.returns
  have hts := htsB (atoms_spec (ws := wzK6_setLength) B.pre)
  have hown : s.vm.findClass RK6 = some m.cls := findClass_of_methodNamed B.named
  have hlocks := B.notSynchronized
  subst hsz
  have hD := hD0.self (sz := s.heap.size)
  generalize hAe : va_A (wS sa cI cZ cB cC sco sml sct s_ad sn sb) s.heap.size = A at hD hE ⊢
  have hA : ∀ q : Nat, s.heap.size ≤ q → A q := fun q h => by rw [← hAe]; exact Or.inr h
  refine kstart (A := A) hP (fun H hP hS => ?_)
  have hl := lv_entry ([.ref sa, .int v1]) (n := 2) (Nat.le_of_ble_eq_true rfl)
  rw [lg_entry_eq]
  generalize (lg_sl ([.ref sa, .int v1]) ++ List.replicate (2 - (lg_sl ([.ref sa, .int v1])).length) Slot.unset).toArray = ls at hl ⊢
  have hl : lv_has ls 2 [(0, .ref sa), (1, .int v1)] := hl
  unfold mK6_setLength at hm
  obtain ⟨hE0z, ⟨dg1, hE1z, hE1t⟩, ⟨dg2, hE2z, hE2t⟩, hE4, ⟨ka0, kv0, hkr0, hk0⟩, ⟨ka1, kv1, hkr1, hk1⟩, ⟨ka2, kv2, hkr2, hk2⟩⟩ := id hE
  refine lv_aload_n hx hb dK6_setLength_0 rfl (lv_at hl 0 rfl) ?_
  refine lv_iload_n hx hb dK6_setLength_1 rfl (lv_at hl 1 rfl) ?_
  obtain ⟨x1, x2, ec3, hm⟩ := bd2_s hm
  have hPc := hP.sub (ws' := (wS sa cI cZ cB cC sco sml sct s_ad sn sb)) [0, 1] rfl
  have hDc := hD.sub (ws' := (wS sa cI cZ cB cC sco sml sct s_ad sn sb)) [0, 1] (by decide) rfl
  have hFc := va_free (wc := (wS sa cI cZ cB cC sco sml sct s_ad sn sb)) hD hS hA [0, 1] rfl
  refine k_callv (wr := []) (w1 := (wS sa cI cZ cB cC sco x1 x2 s_ad sn sb)) (ws' := (wS sa cI cZ cB cC sco x1 x2 s_ad sn sb)) (va_runSU (C := RK6) (hK.1 6 _ rfl).2 (As := [.int v1]) (rest := []) ⟨hx, hb, hml, hown, hts⟩ (kJ1_setLength l D cI cZ cB cC H.size sa sco sml sct s_ad sn sb v1 x1 x2 ec3) (va_cwSU 1 hts (gdSU2 (up wdt2_209) (up wdt4_203) (up wdt1_141) (up wdt2_210) (up wdt1_6) gzJ1_setLength) rfl rfl rfl (by decide +kernel) ⟨Nat.le_of_ble_eq_true rfl, Nat.le_of_ble_eq_true rfl⟩) ⟨PrE0_blind, va_recv hK hPc (ci := 6) (q0 := 0) rfl rfl, fun U hU hW => ⟨rfl, Pr_at hK hN hPc hDc hU hW, EN_at hE hS hFc hU hW⟩⟩ rfl rfl hl.1 rfl (lv_room (Nat.le_of_ble_eq_true rfl)) dK6_setLength_2 ⟨Nat.le_of_ble_eq_true rfl, Nat.le_of_ble_eq_true rfl⟩) hP hD hS hA [0, 1] [] [0, 1] rfl rfl (by decide) (by decide) (by decide) rfl (fun H locs hP hD hS => ?_)
  replace hm := Option.some.inj hm
  simp only [Prod.mk.injEq] at hm
  obtain ⟨rfl, rfl⟩ := hm
  exact k_retv hx hb hr hlocks hP hD hS dK6_setLength_5
def mJ1_length (sct : Int32) : Option (Int32) :=
  some sct
abbrev rmJ1_length : Room := { frames := 0, cells := 0, slots := 0, locals := 0 }
set_option maxHeartbeats 4000000 in
set_option maxRecDepth 100000 in
theorem kJ1_length (l : Launch) (D : va_G) (cI cZ cB cC : ClassId) (sz : Nat) (sa : Nat) (sco : Int32) (sml : Int32) (sct : Int32) (s_ad : Nat) (sn : Nat) (sb : Nat → Int32) (r0 : Int32) (hm : mJ1_length sct = some r0) : Met l yJ1_length wzJ1_length rmJ1_length (va_Pc [.ref sa] (PrE0 D (tyL cI cZ cB cC) sz (wS sa cI cZ cB cC sco sml sct s_ad sn sb))) (QI D (va_A (wS sa cI cZ cB cC sco sml sct s_ad sn sb) sz) r0 (wS sa cI cZ cB cC sco sml sct s_ad sn sb)) 0 0 (va_A (wS sa cI cZ cB cC sco sml sct s_ad sn sb) sz) := by
  refine Met.ofW (cc := cJ1_length) (maxL := 1) (ret := (some .int)) (by decide) rfl ?_
  intro p e s m args below meth c s₁ B hml hv
  obtain ⟨rfl, ⟨hsz, hP, hK, hD0, hN⟩, hE⟩ := hv
  have hx := B.exec
  have hb := B.bytes
  have hr := B.returns
  have hts := htsB (atoms_spec (ws := wzJ1_length) B.pre)
  have hown : s.vm.findClass RJ1 = some m.cls := findClass_of_methodNamed B.named
  have hlocks := B.notSynchronized
  subst hsz
  have hD := hD0.self (sz := s.heap.size)
  generalize hAe : va_A (wS sa cI cZ cB cC sco sml sct s_ad sn sb) s.heap.size = A at hD hE ⊢
  have hA : ∀ q : Nat, s.heap.size ≤ q → A q := fun q h => by rw [← hAe]; exact Or.inr h
  refine kstart (A := A) hP (fun H hP hS => ?_)
  have hl := lv_entry ([.ref sa]) (n := 1) (Nat.le_of_ble_eq_true rfl)
  rw [lg_entry_eq]
  generalize (lg_sl ([.ref sa]) ++ List.replicate (1 - (lg_sl ([.ref sa])).length) Slot.unset).toArray = ls at hl ⊢
  have hl : lv_has ls 1 [(0, .ref sa)] := hl
  unfold mJ1_length at hm
  obtain ⟨hE0z, ⟨dg1, hE1z, hE1t⟩, ⟨dg2, hE2z, hE2t⟩, hE4, ⟨ka0, kv0, hkr0, hk0⟩, ⟨ka1, kv1, hkr1, hk1⟩, ⟨ka2, kv2, hkr2, hk2⟩⟩ := id hE
  refine lv_aload_n hx hb dJ1_length_0 rfl (lv_at hl 0 rfl) ?_
  refine va_get (D := D) (ci := 6) (v := .int sct) (C := RK6) (T := TK6) (N := 4) hx hb hts inK6b hown hK hP 0 rfl rfl 3 (by decide) (hts _ (up wdt1_132)) (fun _ h9 => h9) rfl dJ1_length_1 ?_
  replace hm := Option.some.inj hm
  subst hm
  exact k_reti hx hb hr hlocks hP hD hS dJ1_length_4
def mK6_length (sct : Int32) : Option (Int32) :=
  bd1 (mJ1_length sct) fun x1 => some x1
abbrev rmK6_length : Room := { frames := 1, cells := 0, slots := 0, locals := 20 }
set_option maxHeartbeats 4000000 in
set_option maxRecDepth 100000 in
theorem kK6_length (l : Launch) (D : va_G) (cI cZ cB cC : ClassId) (sz : Nat) (sa : Nat) (sco : Int32) (sml : Int32) (sct : Int32) (s_ad : Nat) (sn : Nat) (sb : Nat → Int32) (r0 : Int32) (hm : mK6_length sct = some r0) : Met l yK6_length wzK6_length rmK6_length (va_Pc [.ref sa] (PrE0 D (tyL cI cZ cB cC) sz (wS sa cI cZ cB cC sco sml sct s_ad sn sb))) (QI D (va_A (wS sa cI cZ cB cC sco sml sct s_ad sn sb) sz) r0 (wS sa cI cZ cB cC sco sml sct s_ad sn sb)) 0 0 (va_A (wS sa cI cZ cB cC sco sml sct s_ad sn sb) sz) := by
  refine Met.ofW (cc := cK6_length) (maxL := 1) (ret := (some .int)) (by decide) rfl ?_
  intro p e s m args below meth c s₁ B hml hv
  obtain ⟨rfl, ⟨hsz, hP, hK, hD0, hN⟩, hE⟩ := hv
  have hx := B.exec
  have hb := B.bytes
  have hr := B.returns
  have hts := htsB (atoms_spec (ws := wzK6_length) B.pre)
  have hown : s.vm.findClass RK6 = some m.cls := findClass_of_methodNamed B.named
  have hlocks := B.notSynchronized
  subst hsz
  have hD := hD0.self (sz := s.heap.size)
  generalize hAe : va_A (wS sa cI cZ cB cC sco sml sct s_ad sn sb) s.heap.size = A at hD hE ⊢
  have hA : ∀ q : Nat, s.heap.size ≤ q → A q := fun q h => by rw [← hAe]; exact Or.inr h
  refine kstart (A := A) hP (fun H hP hS => ?_)
  have hl := lv_entry ([.ref sa]) (n := 1) (Nat.le_of_ble_eq_true rfl)
  rw [lg_entry_eq]
  generalize (lg_sl ([.ref sa]) ++ List.replicate (1 - (lg_sl ([.ref sa])).length) Slot.unset).toArray = ls at hl ⊢
  have hl : lv_has ls 1 [(0, .ref sa)] := hl
  unfold mK6_length at hm
  obtain ⟨hE0z, ⟨dg1, hE1z, hE1t⟩, ⟨dg2, hE2z, hE2t⟩, hE4, ⟨ka0, kv0, hkr0, hk0⟩, ⟨ka1, kv1, hkr1, hk1⟩, ⟨ka2, kv2, hkr2, hk2⟩⟩ := id hE
  refine lv_aload_n hx hb dK6_length_0 rfl (lv_at hl 0 rfl) ?_
  obtain ⟨x1, ec2, hm⟩ := bd1_s hm
  have hPc := hP.sub (ws' := (wS sa cI cZ cB cC sco sml sct s_ad sn sb)) [0, 1] rfl
  have hDc := hD.sub (ws' := (wS sa cI cZ cB cC sco sml sct s_ad sn sb)) [0, 1] (by decide) rfl
  have hFc := va_free (wc := (wS sa cI cZ cB cC sco sml sct s_ad sn sb)) hD hS hA [0, 1] rfl
  refine k_calli (wr := []) (w1 := (wS sa cI cZ cB cC sco sml sct s_ad sn sb)) (ws' := (wS sa cI cZ cB cC sco sml sct s_ad sn sb)) (va_runSU (C := RK6) (hK.1 6 _ rfl).2 (As := []) (rest := []) ⟨hx, hb, hml, hown, hts⟩ (kJ1_length l D cI cZ cB cC H.size sa sco sml sct s_ad sn sb x1 ec2) (va_cwSU 0 hts (gdSU2 (up wdt3_25) (up wdt4_206) (up wdt1_141) (up wdt3_26) (up wdt1_6) gzJ1_length) rfl rfl rfl (by decide +kernel) ⟨Nat.le_of_ble_eq_true rfl, Nat.le_of_ble_eq_true rfl⟩) ⟨PrE0_blind, va_recv hK hPc (ci := 6) (q0 := 0) rfl rfl, fun U hU hW => ⟨rfl, Pr_at hK hN hPc hDc hU hW, EN_at hE hS hFc hU hW⟩⟩ rfl rfl hl.1 rfl (lv_room (Nat.le_of_ble_eq_true rfl)) dK6_length_1 ⟨Nat.le_of_ble_eq_true rfl, Nat.le_of_ble_eq_true rfl⟩) hP hD hS hA [0, 1] [] [0, 1] rfl rfl (by decide) (by decide) (by decide) rfl (fun H locs hP hD hS => ?_)
  replace hm := Option.some.inj hm
  subst hm
  exact k_reti hx hb hr hlocks hP hD hS dK6_length_4
def mJ8_checkIndex_r (v0 : Int32) (v1 : Int32) : Option (Int32) :=
  if v0 < 0 then
  (none)
  else
  (if v0 < v1 then
    (some v0)
    else
    (none))
abbrev rmJ8_checkIndex_r : Room := { frames := 0, cells := 0, slots := 0, locals := 0 }
set_option maxHeartbeats 4000000 in
set_option maxRecDepth 100000 in
theorem kJ8_checkIndex_r (l : Launch) (D : va_G) (cI cZ cB cC : ClassId) (sz : Nat) (fq : Nat) (v0 : Int32) (v1 : Int32) (r0 : Int32) (hm : mJ8_checkIndex_r v0 v1 = some r0) : Met l yJ8_checkIndex wzJ8_checkIndex rmJ8_checkIndex_r (va_Pc [.int v0, .int v1, .ref fq] (Pr D (tyL cI cZ cB cC) sz [])) (QI D (va_A [] sz) r0 []) 0 0 (va_A [] sz) := by
  refine Met.ofW (cc := cJ8_checkIndex) (maxL := 3) (ret := (some .int)) (by decide) rfl ?_
  intro p e s m args below meth c s₁ B hml hv
  obtain ⟨rfl, hsz, hP, hK, hD0, hN⟩ := hv
  have hx := B.exec
  have hb := B.bytes
  have hr := B.returns
  have hts := htsB (atoms_spec (ws := wzJ8_checkIndex) B.pre)
  have hown : s.vm.findClass RJ8 = some m.cls := findClass_of_methodNamed B.named
  have hlocks := B.notSynchronized
  subst hsz
  have hD := hD0.self (sz := s.heap.size)
  generalize hAe : va_A [] s.heap.size = A at hD ⊢
  have hA : ∀ q : Nat, s.heap.size ≤ q → A q := fun q h => by rw [← hAe]; exact Or.inr h
  refine kstart (A := A) hP (fun H hP hS => ?_)
  have hl := lv_entry ([.int v0, .int v1, .ref fq]) (n := 3) (Nat.le_of_ble_eq_true rfl)
  rw [lg_entry_eq]
  generalize (lg_sl ([.int v0, .int v1, .ref fq]) ++ List.replicate (3 - (lg_sl ([.int v0, .int v1, .ref fq])).length) Slot.unset).toArray = ls at hl ⊢
  have hl : lv_has ls 3 [(0, .int v0), (1, .int v1), (2, .ref fq)] := hl
  unfold mJ8_checkIndex_r at hm
  refine lv_iload_n hx hb dJ8_checkIndex_r_0 rfl (lv_at hl 0 rfl) ?_
  refine lv_if_lt (tgt := 9) hx hb dJ8_checkIndex_r_1 (by decide) (fun hc => ?_) (fun hc => ?_)
  · replace hm := ift hm hc
    refine lv_aload_n hx hb dJ8_checkIndex_r_9 rfl (lv_at hl 2 rfl) ?_
    refine lv_iload_n hx hb dJ8_checkIndex_r_10 rfl (lv_at hl 0 rfl) ?_
    refine lv_iload_n hx hb dJ8_checkIndex_r_11 rfl (lv_at hl 1 rfl) ?_
    exact nomatch hm
  · replace hm := iff_ hm hc
    refine lv_iload_n hx hb dJ8_checkIndex_r_4 rfl (lv_at hl 0 rfl) ?_
    refine lv_iload_n hx hb dJ8_checkIndex_r_5 rfl (lv_at hl 1 rfl) ?_
    refine lv_icmp_lt (tgt := 16) hx hb dJ8_checkIndex_r_6 (by decide) (fun hc => ?_) (fun hc => ?_)
    · replace hm := ift hm hc
      refine lv_iload_n hx hb dJ8_checkIndex_r_16 rfl (lv_at hl 0 rfl) ?_
      replace hm := Option.some.inj hm
      subst hm
      exact k_reti hx hb hr hlocks hP hD hS dJ8_checkIndex_r_17
    · replace hm := iff_ hm hc
      refine lv_aload_n hx hb dJ8_checkIndex_r_9 rfl (lv_at hl 2 rfl) ?_
      refine lv_iload_n hx hb dJ8_checkIndex_r_10 rfl (lv_at hl 0 rfl) ?_
      refine lv_iload_n hx hb dJ8_checkIndex_r_11 rfl (lv_at hl 1 rfl) ?_
      exact nomatch hm
abbrev rmJ8_checkIndex_n : Room := { frames := 0, cells := 0, slots := 0, locals := 0 }
set_option maxHeartbeats 4000000 in
set_option maxRecDepth 100000 in
theorem kJ8_checkIndex_n (l : Launch) (D : va_G) (cI cZ cB cC : ClassId) (sz : Nat) (v0 : Int32) (v1 : Int32) (r0 : Int32) (hm : mJ8_checkIndex_r v0 v1 = some r0) : Met l yJ8_checkIndex wzJ8_checkIndex rmJ8_checkIndex_n (va_Pc [.int v0, .int v1, .null] (Pr D (tyL cI cZ cB cC) sz [])) (QI D (va_A [] sz) r0 []) 0 0 (va_A [] sz) := by
  refine Met.ofW (cc := cJ8_checkIndex) (maxL := 3) (ret := (some .int)) (by decide) rfl ?_
  intro p e s m args below meth c s₁ B hml hv
  obtain ⟨rfl, hsz, hP, hK, hD0, hN⟩ := hv
  have hx := B.exec
  have hb := B.bytes
  have hr := B.returns
  have hts := htsB (atoms_spec (ws := wzJ8_checkIndex) B.pre)
  have hown : s.vm.findClass RJ8 = some m.cls := findClass_of_methodNamed B.named
  have hlocks := B.notSynchronized
  subst hsz
  have hD := hD0.self (sz := s.heap.size)
  generalize hAe : va_A [] s.heap.size = A at hD ⊢
  have hA : ∀ q : Nat, s.heap.size ≤ q → A q := fun q h => by rw [← hAe]; exact Or.inr h
  refine kstart (A := A) hP (fun H hP hS => ?_)
  have hl := lv_entry ([.int v0, .int v1, .null]) (n := 3) (Nat.le_of_ble_eq_true rfl)
  rw [lg_entry_eq]
  generalize (lg_sl ([.int v0, .int v1, .null]) ++ List.replicate (3 - (lg_sl ([.int v0, .int v1, .null])).length) Slot.unset).toArray = ls at hl ⊢
  have hl : lv_has ls 3 [(0, .int v0), (1, .int v1), (2, .null)] := hl
  unfold mJ8_checkIndex_r at hm
  refine lv_iload_n hx hb dJ8_checkIndex_n_0 rfl (lv_at hl 0 rfl) ?_
  refine lv_if_lt (tgt := 9) hx hb dJ8_checkIndex_n_1 (by decide) (fun hc => ?_) (fun hc => ?_)
  · replace hm := ift hm hc
    refine lv_aload_nN hx hb dJ8_checkIndex_n_9 rfl (lv_at hl 2 rfl) ?_
    refine lv_iload_n hx hb dJ8_checkIndex_n_10 rfl (lv_at hl 0 rfl) ?_
    refine lv_iload_n hx hb dJ8_checkIndex_n_11 rfl (lv_at hl 1 rfl) ?_
    exact nomatch hm
  · replace hm := iff_ hm hc
    refine lv_iload_n hx hb dJ8_checkIndex_n_4 rfl (lv_at hl 0 rfl) ?_
    refine lv_iload_n hx hb dJ8_checkIndex_n_5 rfl (lv_at hl 1 rfl) ?_
    refine lv_icmp_lt (tgt := 16) hx hb dJ8_checkIndex_n_6 (by decide) (fun hc => ?_) (fun hc => ?_)
    · replace hm := ift hm hc
      refine lv_iload_n hx hb dJ8_checkIndex_n_16 rfl (lv_at hl 0 rfl) ?_
      replace hm := Option.some.inj hm
      subst hm
      exact k_reti hx hb hr hlocks hP hD hS dJ8_checkIndex_n_17
    · replace hm := iff_ hm hc
      refine lv_aload_nN hx hb dJ8_checkIndex_n_9 rfl (lv_at hl 2 rfl) ?_
      refine lv_iload_n hx hb dJ8_checkIndex_n_10 rfl (lv_at hl 0 rfl) ?_
      refine lv_iload_n hx hb dJ8_checkIndex_n_11 rfl (lv_at hl 1 rfl) ?_
      exact nomatch hm
def mJ3_checkIndex (v0 : Int32) (v1 : Int32) : Option (Unit) :=
  bd1 (mJ8_checkIndex_r v0 v1) fun x1 => some ()
abbrev rmJ3_checkIndex : Room := { frames := 1, cells := 0, slots := 0, locals := 22 }
set_option maxHeartbeats 4000000 in
set_option maxRecDepth 100000 in
theorem kJ3_checkIndex (l : Launch) (D : va_G) (cI cZ cB cC : ClassId) (sz : Nat) (v0 : Int32) (v1 : Int32) (hm : mJ3_checkIndex v0 v1 = some ()) : Met l yJ3_checkIndex wzJ3_checkIndex rmJ3_checkIndex (va_Pc [.int v0, .int v1] (PrE0 D (tyL cI cZ cB cC) sz [])) (QV D (va_A [] sz) []) 0 0 (va_A [] sz) := by
  refine Met.ofW (cc := cJ3_checkIndex) (maxL := 2) (ret := none) (by decide) rfl ?_
  intro p e s m args below meth c s₁ B hml hv
  obtain ⟨rfl, ⟨hsz, hP, hK, hD0, hN⟩, hE⟩ := hv
  have hx := B.exec
  have hb := B.bytes
  have hr := B.returns
  have hts := htsB (atoms_spec (ws := wzJ3_checkIndex) B.pre)
  have hown : s.vm.findClass RJ3 = some m.cls := findClass_of_methodNamed B.named
  have hlocks := B.notSynchronized
  subst hsz
  have hD := hD0.self (sz := s.heap.size)
  generalize hAe : va_A [] s.heap.size = A at hD hE ⊢
  have hA : ∀ q : Nat, s.heap.size ≤ q → A q := fun q h => by rw [← hAe]; exact Or.inr h
  refine kstart (A := A) hP (fun H hP hS => ?_)
  have hl := lv_entry ([.int v0, .int v1]) (n := 2) (Nat.le_of_ble_eq_true rfl)
  rw [lg_entry_eq]
  generalize (lg_sl ([.int v0, .int v1]) ++ List.replicate (2 - (lg_sl ([.int v0, .int v1])).length) Slot.unset).toArray = ls at hl ⊢
  have hl : lv_has ls 2 [(0, .int v0), (1, .int v1)] := hl
  unfold mJ3_checkIndex at hm
  obtain ⟨hE0z, ⟨dg1, hE1z, hE1t⟩, ⟨dg2, hE2z, hE2t⟩, hE4, ⟨ka0, kv0, hkr0, hk0⟩, ⟨ka1, kv1, hkr1, hk1⟩, ⟨ka2, kv2, hkr2, hk2⟩⟩ := id hE
  refine lv_iload_n hx hb dJ3_checkIndex_0 rfl (lv_at hl 0 rfl) ?_
  refine lv_iload_n hx hb dJ3_checkIndex_1 rfl (lv_at hl 1 rfl) ?_
  rcases hE4 with hE4 | ⟨fq, hE4⟩
  · refine va_gets hx hb hE4 hS hown (hts _ (up wdt3_52)) (fun _ h9 => h9) dJ3_checkIndex_2 ?_
    obtain ⟨x1, ec2, hm⟩ := bd1_s hm
    have hPc : va_P D vwCl [] H := va_P0
    have hDc : va_D A [] := va_D0
    refine k_calli0 (va_runS (As := [.int v0, .int v1, .null]) (rest := []) ⟨hx, hb, hml, hown, hts⟩ (kJ8_checkIndex_n l D cI cZ cB cC H.size v0 v1 x1 ec2) (va_cwS 3 hts (gdS2 (up wdt3_160) (up wdt3_161) (up wdt1_17) gzJ8_checkIndex) rfl rfl rfl (by decide +kernel) ⟨Nat.le_of_ble_eq_true rfl, Nat.le_of_ble_eq_true rfl⟩) ⟨Pr_blind, fun U hU hW => ⟨rfl, Pr_at hK hN hPc hDc hU hW⟩⟩ rfl rfl hl.1 rfl (lv_room (Nat.le_of_ble_eq_true rfl)) dJ3_checkIndex_5 ⟨Nat.le_of_ble_eq_true rfl, Nat.le_of_ble_eq_true rfl⟩) hP hD hS hA (fun H locs hP hD hS => ?_)
    refine lv_pop hx hb dJ3_checkIndex_8 rfl ?_
    replace hm := Option.some.inj hm
    exact k_retv hx hb hr hlocks hP hD hS dJ3_checkIndex_9
  · refine va_gets hx hb hE4 hS hown (hts _ (up wdt3_52)) (fun _ h9 => h9) dJ3_checkIndex_2 ?_
    obtain ⟨x1, ec2, hm⟩ := bd1_s hm
    have hPc : va_P D vwCl [] H := va_P0
    have hDc : va_D A [] := va_D0
    refine k_calli0 (va_runS (As := [.int v0, .int v1, .ref fq]) (rest := []) ⟨hx, hb, hml, hown, hts⟩ (kJ8_checkIndex_r l D cI cZ cB cC H.size fq v0 v1 x1 ec2) (va_cwS 3 hts (gdS2 (up wdt3_160) (up wdt3_161) (up wdt1_17) gzJ8_checkIndex) rfl rfl rfl (by decide +kernel) ⟨Nat.le_of_ble_eq_true rfl, Nat.le_of_ble_eq_true rfl⟩) ⟨Pr_blind, fun U hU hW => ⟨rfl, Pr_at hK hN hPc hDc hU hW⟩⟩ rfl rfl hl.1 rfl (lv_room (Nat.le_of_ble_eq_true rfl)) dJ3_checkIndex_5 ⟨Nat.le_of_ble_eq_true rfl, Nat.le_of_ble_eq_true rfl⟩) hP hD hS hA (fun H locs hP hD hS => ?_)
    refine lv_pop hx hb dJ3_checkIndex_8 rfl ?_
    replace hm := Option.some.inj hm
    exact k_retv hx hb hr hlocks hP hD hS dJ3_checkIndex_9
def mJ1_charAt (sco : Int32) (sct : Int32) (sn : Nat) (sb : Nat → Int32) (v1 : Int32) : Option (Int32) :=
  bd1 (some (imin sct ((nI sn) >>> (sco &&& 31)))) fun x1 => bd0 (mJ3_checkIndex v1 x1) <| if sco = 0 then
  (bd1 (rd sb sn v1) fun x3 => bd1 (nz .char (i2c (x3 &&& 255))) fun x4 => some x4)
  else
  (none)
abbrev rmJ1_charAt : Room := { frames := 2, cells := 0, slots := 0, locals := 43 }
set_option maxHeartbeats 4000000 in
set_option maxRecDepth 100000 in
theorem kJ1_charAt (l : Launch) (D : va_G) (cI cZ cB cC : ClassId) (sz : Nat) (sa : Nat) (sco : Int32) (sml : Int32) (sct : Int32) (s_ad : Nat) (sn : Nat) (sb : Nat → Int32) (v1 : Int32) (r0 : Int32) (hm : mJ1_charAt sco sct sn sb v1 = some r0) : Met l yJ1_charAt wzJ1_charAt rmJ1_charAt (va_Pc [.ref sa, .int v1] (PrE0 D (tyL cI cZ cB cC) sz (wS sa cI cZ cB cC sco sml sct s_ad sn sb))) (QI D (va_A (wS sa cI cZ cB cC sco sml sct s_ad sn sb) sz) r0 (wS sa cI cZ cB cC sco sml sct s_ad sn sb)) 0 0 (va_A (wS sa cI cZ cB cC sco sml sct s_ad sn sb) sz) := by
  refine Met.ofW (cc := cJ1_charAt) (maxL := 5) (ret := (some .char)) (by decide) rfl ?_
  intro p e s m args below meth c s₁ B hml hv
  obtain ⟨rfl, ⟨hsz, hP, hK, hD0, hN⟩, hE⟩ := hv
  have hx := B.exec
  have hb := B.bytes
  have hr := B.returns
  have hts := htsB (atoms_spec (ws := wzJ1_charAt) B.pre)
  have hown : s.vm.findClass RJ1 = some m.cls := findClass_of_methodNamed B.named
  have hlocks := B.notSynchronized
  subst hsz
  have hD := hD0.self (sz := s.heap.size)
  generalize hAe : va_A (wS sa cI cZ cB cC sco sml sct s_ad sn sb) s.heap.size = A at hD hE ⊢
  have hA : ∀ q : Nat, s.heap.size ≤ q → A q := fun q h => by rw [← hAe]; exact Or.inr h
  refine kstart (A := A) hP (fun H hP hS => ?_)
  have hl := lv_entry ([.ref sa, .int v1]) (n := 5) (Nat.le_of_ble_eq_true rfl)
  rw [lg_entry_eq]
  generalize (lg_sl ([.ref sa, .int v1]) ++ List.replicate (5 - (lg_sl ([.ref sa, .int v1])).length) Slot.unset).toArray = ls at hl ⊢
  have hl : lv_has ls 5 [(0, .ref sa), (1, .int v1)] := hl
  unfold mJ1_charAt at hm
  obtain ⟨hE0z, ⟨dg1, hE1z, hE1t⟩, ⟨dg2, hE2z, hE2t⟩, hE4, ⟨ka0, kv0, hkr0, hk0⟩, ⟨ka1, kv1, hkr1, hk1⟩, ⟨ka2, kv2, hkr2, hk2⟩⟩ := id hE
  refine lv_aload_n hx hb dJ1_charAt_0 rfl (lv_at hl 0 rfl) ?_
  refine va_get (D := D) (ci := 6) (v := .int sco) (C := RK6) (T := TK6) (N := 4) hx hb hts inK6b hown hK hP 0 rfl rfl 1 (by decide) (hts _ (up wdt1_130)) (fun _ h9 => h9) rfl dJ1_charAt_1 ?_
  refine lv_istore_n (lv' := [(2, .int sco), (0, .ref sa), (1, .int v1)]) hx hb dJ1_charAt_4 rfl hl (by decide) rfl (fun ls hl => ?_)
  refine lv_aload_n hx hb dJ1_charAt_5 rfl (lv_at hl 1 rfl) ?_
  refine va_get (D := D) (ci := 6) (v := .ref s_ad) (C := RK6) (T := TK6) (N := 4) hx hb hts inK6b hown hK hP 0 rfl rfl 0 (by decide) (hts _ (up wdt1_129)) (fun _ h9 => h9) rfl dJ1_charAt_6 ?_
  refine lv_astore_n (lv' := [(3, .ref s_ad), (2, .int sco), (0, .ref sa), (1, .int v1)]) hx hb dJ1_charAt_9 rfl hl (by decide) rfl (fun ls hl => ?_)
  refine lv_aload_n hx hb dJ1_charAt_10 rfl (lv_at hl 2 rfl) ?_
  refine va_get (D := D) (ci := 6) (v := .int sct) (C := RK6) (T := TK6) (N := 4) hx hb hts inK6b hown hK hP 0 rfl rfl 3 (by decide) (hts _ (up wdt1_132)) (fun _ h9 => h9) rfl dJ1_charAt_11 ?_
  refine lv_aload_n hx hb dJ1_charAt_14 rfl (lv_at hl 0 rfl) ?_
  refine va_alen hx hb hK hP 1 2 rfl rfl (v := nI sn) rfl dJ1_charAt_15 ?_
  refine lv_iload_n hx hb dJ1_charAt_16 rfl (lv_at hl 1 rfl) ?_
  refine lv_ishr hx hb dJ1_charAt_17 ?_
  refine va_mmin hx hb (by rw [hml]; exact hl.1.symm) hown (hts _ (up wdt3_175)) (hts _ (up wdt1_228)) (hts _ (up wdt1_13)) (hts _ (up wdt1_229)) (Nat.le_of_ble_eq_true rfl) (Nat.le_of_ble_eq_true rfl) (Nat.le_of_ble_eq_true rfl) (Nat.le_of_ble_eq_true rfl) dJ1_charAt_18 ?_
  refine topi (y := imin sct ((nI sn) >>> (sco &&& 31))) rfl ?_
  obtain ⟨x1, ex1, hm⟩ := bd1_s hm
  refine topi (Option.some.inj ex1) ?_
  refine lv_istore (lv' := [(4, .int x1), (3, .ref s_ad), (2, .int sco), (0, .ref sa), (1, .int v1)]) hx hb dJ1_charAt_21 hl (by decide) rfl (fun ls hl => ?_)
  refine lv_iload_n hx hb dJ1_charAt_23 rfl (lv_at hl 4 rfl) ?_
  refine lv_iload hx hb dJ1_charAt_24 (lv_at hl 0 rfl) ?_
  obtain ⟨ec2, hm⟩ := bd0_s hm
  have hPc : va_P D vwCl [] H := va_P0
  have hDc : va_D A [] := va_D0
  have hFc := va_free (wc := []) hD hS hA [] rfl
  refine k_callv0 (va_runS (As := [.int v1, .int x1]) (rest := []) ⟨hx, hb, hml, hown, hts⟩ (kJ3_checkIndex l D cI cZ cB cC H.size v1 x1 ec2) (va_cwS 2 hts (gdS2 (up wdt3_176) (up wdt3_158) (up wdt1_8) gzJ3_checkIndex) rfl rfl rfl (by decide +kernel) ⟨Nat.le_of_ble_eq_true rfl, Nat.le_of_ble_eq_true rfl⟩) ⟨PrE0_blind, fun U hU hW => ⟨rfl, Pr_at hK hN hPc hDc hU hW, EN_at hE hS hFc hU hW⟩⟩ rfl rfl hl.1 rfl (lv_room (Nat.le_of_ble_eq_true rfl)) dJ1_charAt_26 ⟨Nat.le_of_ble_eq_true rfl, Nat.le_of_ble_eq_true rfl⟩) hP hD hS hA (fun H locs hP hD hS => ?_)
  refine lv_iload_n hx hb dJ1_charAt_29 rfl (lv_at hl 2 rfl) ?_
  refine lv_if_ne (tgt := 42) hx hb dJ1_charAt_30 (by decide) (fun hc => ?_) (fun hc => ?_)
  · replace hm := iff_ hm hc
    refine lv_aload_n hx hb dJ1_charAt_42 rfl (lv_at hl 1 rfl) ?_
    refine lv_iload_n hx hb dJ1_charAt_43 rfl (lv_at hl 4 rfl) ?_
    exact nomatch hm
  · replace hm := ift hm hc
    refine lv_aload_n hx hb dJ1_charAt_33 rfl (lv_at hl 1 rfl) ?_
    refine lv_iload_n hx hb dJ1_charAt_34 rfl (lv_at hl 4 rfl) ?_
    obtain ⟨x3, ex3, hm⟩ := bd1_s hm
    obtain ⟨hix3, ex3⟩ := rd_s ex3
    refine va_bald hx hb hK hP 1 2 rfl rfl hix3 dJ1_charAt_35 ?_
    refine topi ex3 ?_
    refine lv_sipush (v := 255) hx hb dJ1_charAt_36 (by decide) ?_
    refine lv_iand hx hb dJ1_charAt_39 ?_
    refine lv_i2c (v := i2c (x3 &&& 255)) hx hb dJ1_charAt_40 rfl ?_
    obtain ⟨x4, ex4, hm⟩ := bd1_s hm
    obtain ⟨eex4, hzx4⟩ := nz_s ex4
    refine topi eex4 ?_
    replace hm := Option.some.inj hm
    subst hm
    exact k_retz hx hb hr hlocks hzx4 hP hD hS dJ1_charAt_41
def mK6_charAt (sco : Int32) (sct : Int32) (sn : Nat) (sb : Nat → Int32) (v1 : Int32) : Option (Int32) :=
  bd1 (mJ1_charAt sco sct sn sb v1) fun x1 => bd1 (nz .char x1) fun x3 => some x3
abbrev rmK6_charAt : Room := { frames := 3, cells := 0, slots := 0, locals := 67 }
set_option maxHeartbeats 4000000 in
set_option maxRecDepth 100000 in
theorem kK6_charAt (l : Launch) (D : va_G) (cI cZ cB cC : ClassId) (sz : Nat) (sa : Nat) (sco : Int32) (sml : Int32) (sct : Int32) (s_ad : Nat) (sn : Nat) (sb : Nat → Int32) (v1 : Int32) (r0 : Int32) (hm : mK6_charAt sco sct sn sb v1 = some r0) : Met l yK6_charAt wzK6_charAt rmK6_charAt (va_Pc [.ref sa, .int v1] (PrE0 D (tyL cI cZ cB cC) sz (wS sa cI cZ cB cC sco sml sct s_ad sn sb))) (QI D (va_A (wS sa cI cZ cB cC sco sml sct s_ad sn sb) sz) r0 (wS sa cI cZ cB cC sco sml sct s_ad sn sb)) 0 0 (va_A (wS sa cI cZ cB cC sco sml sct s_ad sn sb) sz) := by
  refine Met.ofW (cc := cK6_charAt) (maxL := 2) (ret := (some .char)) (by decide) rfl ?_
  intro p e s m args below meth c s₁ B hml hv
  obtain ⟨rfl, ⟨hsz, hP, hK, hD0, hN⟩, hE⟩ := hv
  have hx := B.exec
  have hb := B.bytes
  have hr := B.returns
  have hts := htsB (atoms_spec (ws := wzK6_charAt) B.pre)
  have hown : s.vm.findClass RK6 = some m.cls := findClass_of_methodNamed B.named
  have hlocks := B.notSynchronized
  subst hsz
  have hD := hD0.self (sz := s.heap.size)
  generalize hAe : va_A (wS sa cI cZ cB cC sco sml sct s_ad sn sb) s.heap.size = A at hD hE ⊢
  have hA : ∀ q : Nat, s.heap.size ≤ q → A q := fun q h => by rw [← hAe]; exact Or.inr h
  refine kstart (A := A) hP (fun H hP hS => ?_)
  have hl := lv_entry ([.ref sa, .int v1]) (n := 2) (Nat.le_of_ble_eq_true rfl)
  rw [lg_entry_eq]
  generalize (lg_sl ([.ref sa, .int v1]) ++ List.replicate (2 - (lg_sl ([.ref sa, .int v1])).length) Slot.unset).toArray = ls at hl ⊢
  have hl : lv_has ls 2 [(0, .ref sa), (1, .int v1)] := hl
  unfold mK6_charAt at hm
  obtain ⟨hE0z, ⟨dg1, hE1z, hE1t⟩, ⟨dg2, hE2z, hE2t⟩, hE4, ⟨ka0, kv0, hkr0, hk0⟩, ⟨ka1, kv1, hkr1, hk1⟩, ⟨ka2, kv2, hkr2, hk2⟩⟩ := id hE
  refine lv_aload_n hx hb dK6_charAt_0 rfl (lv_at hl 0 rfl) ?_
  refine lv_iload_n hx hb dK6_charAt_1 rfl (lv_at hl 1 rfl) ?_
  obtain ⟨x1, ec2, hm⟩ := bd1_s hm
  have hPc := hP.sub (ws' := (wS sa cI cZ cB cC sco sml sct s_ad sn sb)) [0, 1] rfl
  have hDc := hD.sub (ws' := (wS sa cI cZ cB cC sco sml sct s_ad sn sb)) [0, 1] (by decide) rfl
  have hFc := va_free (wc := (wS sa cI cZ cB cC sco sml sct s_ad sn sb)) hD hS hA [0, 1] rfl
  refine k_calli (wr := []) (w1 := (wS sa cI cZ cB cC sco sml sct s_ad sn sb)) (ws' := (wS sa cI cZ cB cC sco sml sct s_ad sn sb)) (va_runSU (C := RK6) (hK.1 6 _ rfl).2 (As := [.int v1]) (rest := []) ⟨hx, hb, hml, hown, hts⟩ (kJ1_charAt l D cI cZ cB cC H.size sa sco sml sct s_ad sn sb v1 x1 ec2) (va_cwSU 1 hts (gdSU2 (up wdt3_172) (up wdt4_214) (up wdt1_141) (up wdt3_173) (up wdt1_6) gzJ1_charAt) rfl rfl rfl (by decide +kernel) ⟨Nat.le_of_ble_eq_true rfl, Nat.le_of_ble_eq_true rfl⟩) ⟨PrE0_blind, va_recv hK hPc (ci := 6) (q0 := 0) rfl rfl, fun U hU hW => ⟨rfl, Pr_at hK hN hPc hDc hU hW, EN_at hE hS hFc hU hW⟩⟩ rfl rfl hl.1 rfl (lv_room (Nat.le_of_ble_eq_true rfl)) dK6_charAt_2 ⟨Nat.le_of_ble_eq_true rfl, Nat.le_of_ble_eq_true rfl⟩) hP hD hS hA [0, 1] [] [0, 1] rfl rfl (by decide) (by decide) (by decide) rfl (fun H locs hP hD hS => ?_)
  obtain ⟨x3, ex3, hm⟩ := bd1_s hm
  obtain ⟨eex3, hzx3⟩ := nz_s ex3
  refine topi eex3 ?_
  replace hm := Option.some.inj hm
  subst hm
  exact k_retz hx hb hr hlocks hzx3 hP hD hS dK6_charAt_5
def mJ3_coder : Option (Int32) :=
  if (1 : Int32) = 0 then
  (some 1)
  else
  (some (0 : Int32))
abbrev rmJ3_coder : Room := { frames := 0, cells := 0, slots := 0, locals := 0 }
set_option maxHeartbeats 4000000 in
set_option maxRecDepth 100000 in
theorem kJ3_coder (l : Launch) (D : va_G) (cI cZ cB cC : ClassId) (sz : Nat) (xa xv xn : Nat) (xf : Nat → Int32) (r0 : Int32) (hm : mJ3_coder  = some r0) : Met l yJ3_coder wzJ3_coder rmJ3_coder (va_Pc [.ref xa] (PrE1 D (tyL cI cZ cB cC) sz [] xa xv xn xf)) (QI D (va_A [] sz) r0 []) 0 0 (va_A [] sz) := by
  refine Met.ofW (cc := cJ3_coder) (maxL := 1) (ret := (some .byte)) (by decide) rfl ?_
  intro p e s m args below meth c s₁ B hml hv
  obtain ⟨rfl, ⟨hsz, hP, hK, hD0, hN⟩, hE, hX⟩ := hv
  have hx := B.exec
  have hb := B.bytes
  have hr := B.returns
  have hts := htsB (atoms_spec (ws := wzJ3_coder) B.pre)
  have hown : s.vm.findClass RJ3 = some m.cls := findClass_of_methodNamed B.named
  have hlocks := B.notSynchronized
  subst hsz
  have hD := hD0.self (sz := s.heap.size)
  generalize hAe : va_A [] s.heap.size = A at hD hE hX ⊢
  have hA : ∀ q : Nat, s.heap.size ≤ q → A q := fun q h => by rw [← hAe]; exact Or.inr h
  refine kstart (A := A) hP (fun H hP hS => ?_)
  have hl := lv_entry ([.ref xa]) (n := 1) (Nat.le_of_ble_eq_true rfl)
  rw [lg_entry_eq]
  generalize (lg_sl ([.ref xa]) ++ List.replicate (1 - (lg_sl ([.ref xa])).length) Slot.unset).toArray = ls at hl ⊢
  have hl : lv_has ls 1 [(0, .ref xa)] := hl
  unfold mJ3_coder at hm
  obtain ⟨hE0z, ⟨dg1, hE1z, hE1t⟩, ⟨dg2, hE2z, hE2t⟩, hE4, ⟨ka0, kv0, hkr0, hk0⟩, ⟨ka1, kv1, hkr1, hk1⟩, ⟨ka2, kv2, hkr2, hk2⟩⟩ := id hE
  refine va_gets hx hb hE.1 hS hown (hts _ (up wdt3_74)) (fun _ h9 => h9) dJ3_coder_0 ?_
  refine lv_if_eq (tgt := 13) hx hb dJ3_coder_3 (by decide) (fun hc => ?_) (fun hc => ?_)
  · replace hm := ift hm hc
    refine lv_iconst (v := 1) hx hb dJ3_coder_13 (by decide) ?_
    replace hm := Option.some.inj hm
    subst hm
    exact k_retz hx hb hr hlocks rfl hP hD hS dJ3_coder_14
  · replace hm := iff_ hm hc
    refine lv_aload_n hx hb dJ3_coder_6 rfl (lv_at hl 0 rfl) ?_
    refine vk_getf hx hb hX.2.2.1 hS hown (hts _ (up wdt4_216)) (fun _ h9 => h9) dJ3_coder_7 ?_
    refine lv_goto (tgt := 14) hx hb dJ3_coder_10 (by decide) ?_
    replace hm := Option.some.inj hm
    subst hm
    exact k_retz hx hb hr hlocks rfl hP hD hS dJ3_coder_14
def mJ3_length (xn : Nat) : Option (Int32) :=
  bd1 (mJ3_coder) fun x1 => some ((nI xn) >>> (x1 &&& 31))
abbrev rmJ3_length : Room := { frames := 1, cells := 0, slots := 0, locals := 20 }
set_option maxHeartbeats 4000000 in
set_option maxRecDepth 100000 in
theorem kJ3_length (l : Launch) (D : va_G) (cI cZ cB cC : ClassId) (sz : Nat) (xa xv xn : Nat) (xf : Nat → Int32) (r0 : Int32) (hm : mJ3_length xn = some r0) : Met l yJ3_length wzJ3_length rmJ3_length (va_Pc [.ref xa] (PrE1 D (tyL cI cZ cB cC) sz [] xa xv xn xf)) (QI D (va_A [] sz) r0 []) 0 0 (va_A [] sz) := by
  refine Met.ofW (cc := cJ3_length) (maxL := 1) (ret := (some .int)) (by decide) rfl ?_
  intro p e s m args below meth c s₁ B hml hv
  obtain ⟨rfl, ⟨hsz, hP, hK, hD0, hN⟩, hE, hX⟩ := hv
  have hx := B.exec
  have hb := B.bytes
  have hr := B.returns
  have hts := htsB (atoms_spec (ws := wzJ3_length) B.pre)
  have hown : s.vm.findClass RJ3 = some m.cls := findClass_of_methodNamed B.named
  have hlocks := B.notSynchronized
  subst hsz
  have hD := hD0.self (sz := s.heap.size)
  generalize hAe : va_A [] s.heap.size = A at hD hE hX ⊢
  have hA : ∀ q : Nat, s.heap.size ≤ q → A q := fun q h => by rw [← hAe]; exact Or.inr h
  refine kstart (A := A) hP (fun H hP hS => ?_)
  have hl := lv_entry ([.ref xa]) (n := 1) (Nat.le_of_ble_eq_true rfl)
  rw [lg_entry_eq]
  generalize (lg_sl ([.ref xa]) ++ List.replicate (1 - (lg_sl ([.ref xa])).length) Slot.unset).toArray = ls at hl ⊢
  have hl : lv_has ls 1 [(0, .ref xa)] := hl
  unfold mJ3_length at hm
  obtain ⟨hE0z, ⟨dg1, hE1z, hE1t⟩, ⟨dg2, hE2z, hE2t⟩, hE4, ⟨ka0, kv0, hkr0, hk0⟩, ⟨ka1, kv1, hkr1, hk1⟩, ⟨ka2, kv2, hkr2, hk2⟩⟩ := id hE
  refine lv_aload_n hx hb dJ3_length_0 rfl (lv_at hl 0 rfl) ?_
  refine vk_getf hx hb hX.2.1 hS hown (hts _ (up wdt4_215)) (fun _ h9 => h9) dJ3_length_1 ?_
  refine va_tlen hx hb hX.2.2.2 hS (v := nI xn) rfl dJ3_length_4 ?_
  refine lv_aload_n hx hb dJ3_length_5 rfl (lv_at hl 0 rfl) ?_
  obtain ⟨x1, ec2, hm⟩ := bd1_s hm
  have hPc : va_P D vwCl [] H := va_P0
  have hDc : va_D A [] := va_D0
  have hFc := va_free (wc := []) hD hS hA [] rfl
  refine k_calli0 (va_runV (As := []) (rest := [.int (nI xn)]) ⟨hx, hb, hml, hown, hts⟩ (kJ3_coder l D cI cZ cB cC H.size xa xv xn xf x1 ec2) (cwV 0 hts (gdV2 (up wdt3_70) (up wdt3_71) (up wdt3_72) (up wdt1_8) gzJ3_coder) rfl rfl rfl (by decide +kernel) ⟨Nat.le_of_ble_eq_true rfl, Nat.le_of_ble_eq_true rfl⟩) ⟨PrE1_blind, va_Orecv hX.1 hS, fun U hU hW => ⟨rfl, Pr_at hK hN hPc hDc hU hW, EN_at hE hS hFc hU hW, StrK_at hX hS hFc hU hW⟩⟩ rfl rfl hl.1 rfl (lv_room (Nat.le_of_ble_eq_true rfl)) dJ3_length_6 ⟨Nat.le_of_ble_eq_true rfl, Nat.le_of_ble_eq_true rfl⟩) hP hD hS hA (fun H locs hP hD hS => ?_)
  refine lv_ishr hx hb dJ3_length_9 ?_
  replace hm := Option.some.inj hm
  subst hm
  exact k_reti hx hb hr hlocks hP hD hS dJ3_length_10
def mJ3_getBytes (bn : Nat) (bf : Nat → Int32) (xn : Nat) (xf : Nat → Int32) (v2 : Int32) (v3 : Int32) : Option ((Nat → Int32)) :=
  bd1 (mJ3_coder) fun x1 => if x1 = v3 then
  (bd1 (cpyt xf xn bf bn 0 (v2 <<< (v3 &&& 31)) (nI xn)) fun x3 => some x3)
  else
  (none)
abbrev rmJ3_getBytes : Room := { frames := 1, cells := 0, slots := 0, locals := 60 }
set_option maxHeartbeats 4000000 in
set_option maxRecDepth 100000 in
theorem kJ3_getBytes (l : Launch) (D : va_G) (cI cZ cB cC : ClassId) (sz : Nat) (ba : Nat) (bn : Nat) (bf : Nat → Int32) (xa xv xn : Nat) (xf : Nat → Int32) (v2 : Int32) (v3 : Int32) (bf_r : Nat → Int32) (hm : mJ3_getBytes bn bf xn xf v2 v3 = some bf_r) : Met l yJ3_getBytes wzJ3_getBytes rmJ3_getBytes (va_Pc [.ref xa, .ref ba, .int v2, .int v3] (PrE1 D (tyL cI cZ cB cC) sz (wB ba cI cZ cB cC bn bf) xa xv xn xf)) (QV D (va_A (wB ba cI cZ cB cC bn bf) sz) (wB ba cI cZ cB cC bn bf_r)) 0 0 (va_A (wB ba cI cZ cB cC bn bf) sz) := by
  refine Met.ofW (cc := cJ3_getBytes) (maxL := 4) (ret := none) (by decide) rfl ?_
  intro p e s m args below meth c s₁ B hml hv
  obtain ⟨rfl, ⟨hsz, hP, hK, hD0, hN⟩, hE, hX⟩ := hv
  have hx := B.exec
  have hb := B.bytes
  have hr := B.returns
  have hts := htsB (atoms_spec (ws := wzJ3_getBytes) B.pre)
  have hown : s.vm.findClass RJ3 = some m.cls := findClass_of_methodNamed B.named
  have hlocks := B.notSynchronized
  subst hsz
  have hD := hD0.self (sz := s.heap.size)
  generalize hAe : va_A (wB ba cI cZ cB cC bn bf) s.heap.size = A at hD hE hX ⊢
  have hA : ∀ q : Nat, s.heap.size ≤ q → A q := fun q h => by rw [← hAe]; exact Or.inr h
  refine kstart (A := A) hP (fun H hP hS => ?_)
  have hl := lv_entry ([.ref xa, .ref ba, .int v2, .int v3]) (n := 4) (Nat.le_of_ble_eq_true rfl)
  rw [lg_entry_eq]
  generalize (lg_sl ([.ref xa, .ref ba, .int v2, .int v3]) ++ List.replicate (4 - (lg_sl ([.ref xa, .ref ba, .int v2, .int v3])).length) Slot.unset).toArray = ls at hl ⊢
  have hl : lv_has ls 4 [(0, .ref xa), (1, .ref ba), (2, .int v2), (3, .int v3)] := hl
  unfold mJ3_getBytes at hm
  obtain ⟨hE0z, ⟨dg1, hE1z, hE1t⟩, ⟨dg2, hE2z, hE2t⟩, hE4, ⟨ka0, kv0, hkr0, hk0⟩, ⟨ka1, kv1, hkr1, hk1⟩, ⟨ka2, kv2, hkr2, hk2⟩⟩ := id hE
  refine lv_aload_n hx hb dJ3_getBytes_0 rfl (lv_at hl 0 rfl) ?_
  obtain ⟨x1, ec2, hm⟩ := bd1_s hm
  have hPc : va_P D vwCl [] H := va_P0
  have hDc : va_D A [] := va_D0
  have hFc := va_free (wc := []) hD hS hA [] rfl
  refine k_calli0 (va_runV (As := []) (rest := []) ⟨hx, hb, hml, hown, hts⟩ (kJ3_coder l D cI cZ cB cC H.size xa xv xn xf x1 ec2) (cwV 0 hts (gdV2 (up wdt3_70) (up wdt3_71) (up wdt3_72) (up wdt1_8) gzJ3_coder) rfl rfl rfl (by decide +kernel) ⟨Nat.le_of_ble_eq_true rfl, Nat.le_of_ble_eq_true rfl⟩) ⟨PrE1_blind, va_Orecv hX.1 hS, fun U hU hW => ⟨rfl, Pr_at hK hN hPc hDc hU hW, EN_at hE hS hFc hU hW, StrK_at hX hS hFc hU hW⟩⟩ rfl rfl hl.1 rfl (lv_room (Nat.le_of_ble_eq_true rfl)) dJ3_getBytes_1 ⟨Nat.le_of_ble_eq_true rfl, Nat.le_of_ble_eq_true rfl⟩) hP hD hS hA (fun H locs hP hD hS => ?_)
  refine lv_iload_n hx hb dJ3_getBytes_4 rfl (lv_at hl 3 rfl) ?_
  refine lv_icmp_ne (tgt := 28) hx hb dJ3_getBytes_5 (by decide) (fun hc => ?_) (fun hc => ?_)
  · replace hm := iff_ hm hc
    refine lv_aload_n hx hb dJ3_getBytes_28 rfl (lv_at hl 0 rfl) ?_
    refine vk_getf hx hb hX.2.1 hS hown (hts _ (up wdt4_215)) (fun _ h9 => h9) dJ3_getBytes_29 ?_
    refine lv_iconst (v := 0) hx hb dJ3_getBytes_32 (by decide) ?_
    refine lv_aload_n hx hb dJ3_getBytes_33 rfl (lv_at hl 1 rfl) ?_
    refine lv_iload_n hx hb dJ3_getBytes_34 rfl (lv_at hl 2 rfl) ?_
    refine lv_aload_n hx hb dJ3_getBytes_35 rfl (lv_at hl 0 rfl) ?_
    refine vk_getf hx hb hX.2.1 hS hown (hts _ (up wdt4_215)) (fun _ h9 => h9) dJ3_getBytes_36 ?_
    refine va_tlen hx hb hX.2.2.2 hS (v := nI xn) rfl dJ3_getBytes_39 ?_
    exact nomatch hm
  · replace hm := ift hm hc
    refine lv_aload_n hx hb dJ3_getBytes_8 rfl (lv_at hl 0 rfl) ?_
    refine vk_getf hx hb hX.2.1 hS hown (hts _ (up wdt4_215)) (fun _ h9 => h9) dJ3_getBytes_9 ?_
    refine lv_iconst (v := 0) hx hb dJ3_getBytes_12 (by decide) ?_
    refine lv_aload_n hx hb dJ3_getBytes_13 rfl (lv_at hl 1 rfl) ?_
    refine lv_iload_n hx hb dJ3_getBytes_14 rfl (lv_at hl 2 rfl) ?_
    refine lv_iload_n hx hb dJ3_getBytes_15 rfl (lv_at hl 3 rfl) ?_
    refine lv_ishl hx hb dJ3_getBytes_16 ?_
    refine lv_aload_n hx hb dJ3_getBytes_17 rfl (lv_at hl 0 rfl) ?_
    refine vk_getf hx hb hX.2.1 hS hown (hts _ (up wdt4_215)) (fun _ h9 => h9) dJ3_getBytes_18 ?_
    refine va_tlen hx hb hX.2.2.2 hS (v := nI xn) rfl dJ3_getBytes_21 ?_
    obtain ⟨x3, ex3, hm⟩ := bd1_s hm
    obtain ⟨hc1, hc2, hc3, hc4, hc5, hc6, ex3⟩ := cpyt_s ex3
    refine vk_copyt hx hb (by rw [hml]; exact hl.1.symm) hown (hts _ (up wdt3_107)) (hts _ (up wdt2_141)) (hts _ (up wdt2_140)) (hts _ (up wdt1_14)) hK hP hD hS hX.2.2.2 0 2 rfl rfl hc1 hc2 hc3 hc4 hc5 hc6 (Nat.le_of_ble_eq_true rfl) (by decide) dJ3_getBytes_22 (fun H locs hP hD hS => ?_)
    rw [ex3] at hP hD
    have hP : va_P D vwCl (wB ba cI cZ cB cC bn x3) H := hP
    have hD : va_D A (wB ba cI cZ cB cC bn x3) := hD
    refine lv_goto (tgt := 43) hx hb dJ3_getBytes_25 (by decide) ?_
    replace hm := Option.some.inj hm
    subst hm
    exact k_retv hx hb hr hlocks hP hD hS dJ3_getBytes_43
def mJ1_inflateIfNeededFor (sco : Int32) : Option (Unit) :=
  if (1 : Int32) = 0 then
  (some ())
  else
  (bd1 (mJ3_coder) fun x1 => if sco = x1 then
    (some ())
    else
    (none))
abbrev rmJ1_inflateIfNeededFor : Room := { frames := 1, cells := 0, slots := 0, locals := 20 }
set_option maxHeartbeats 4000000 in
set_option maxRecDepth 100000 in
theorem kJ1_inflateIfNeededFor (l : Launch) (D : va_G) (cI cZ cB cC : ClassId) (sz : Nat) (sa : Nat) (sco : Int32) (sml : Int32) (sct : Int32) (s_ad : Nat) (sn : Nat) (sb : Nat → Int32) (xa xv xn : Nat) (xf : Nat → Int32) (hm : mJ1_inflateIfNeededFor sco = some ()) : Met l yJ1_inflateIfNeededFor wzJ1_inflateIfNeededFor rmJ1_inflateIfNeededFor (va_Pc [.ref sa, .ref xa] (PrE1 D (tyL cI cZ cB cC) sz (wS sa cI cZ cB cC sco sml sct s_ad sn sb) xa xv xn xf)) (QV D (va_A (wS sa cI cZ cB cC sco sml sct s_ad sn sb) sz) (wS sa cI cZ cB cC sco sml sct s_ad sn sb)) 0 0 (va_A (wS sa cI cZ cB cC sco sml sct s_ad sn sb) sz) := by
  refine Met.ofW (cc := cJ1_inflateIfNeededFor) (maxL := 2) (ret := none) (by decide) rfl ?_
  intro p e s m args below meth c s₁ B hml hv
  obtain ⟨rfl, ⟨hsz, hP, hK, hD0, hN⟩, hE, hX⟩ := hv
  have hx := B.exec
  have hb := B.bytes
  have hr := B.returns
  have hts := htsB (atoms_spec (ws := wzJ1_inflateIfNeededFor) B.pre)
  have hown : s.vm.findClass RJ1 = some m.cls := findClass_of_methodNamed B.named
  have hlocks := B.notSynchronized
  subst hsz
  have hD := hD0.self (sz := s.heap.size)
  generalize hAe : va_A (wS sa cI cZ cB cC sco sml sct s_ad sn sb) s.heap.size = A at hD hE hX ⊢
  have hA : ∀ q : Nat, s.heap.size ≤ q → A q := fun q h => by rw [← hAe]; exact Or.inr h
  refine kstart (A := A) hP (fun H hP hS => ?_)
  have hl := lv_entry ([.ref sa, .ref xa]) (n := 2) (Nat.le_of_ble_eq_true rfl)
  rw [lg_entry_eq]
  generalize (lg_sl ([.ref sa, .ref xa]) ++ List.replicate (2 - (lg_sl ([.ref sa, .ref xa])).length) Slot.unset).toArray = ls at hl ⊢
  have hl : lv_has ls 2 [(0, .ref sa), (1, .ref xa)] := hl
  unfold mJ1_inflateIfNeededFor at hm
  obtain ⟨hE0z, ⟨dg1, hE1z, hE1t⟩, ⟨dg2, hE2z, hE2t⟩, hE4, ⟨ka0, kv0, hkr0, hk0⟩, ⟨ka1, kv1, hkr1, hk1⟩, ⟨ka2, kv2, hkr2, hk2⟩⟩ := id hE
  refine va_gets hx hb hE.1 hS hown (hts _ (up wdt1_120)) (fun _ h9 => h9) dJ1_inflateIfNeededFor_0 ?_
  refine lv_if_eq (tgt := 21) hx hb dJ1_inflateIfNeededFor_3 (by decide) (fun hc => ?_) (fun hc => ?_)
  · replace hm := ift hm hc
    replace hm := Option.some.inj hm
    exact k_retv hx hb hr hlocks hP hD hS dJ1_inflateIfNeededFor_21
  · replace hm := iff_ hm hc
    refine lv_aload_n hx hb dJ1_inflateIfNeededFor_6 rfl (lv_at hl 0 rfl) ?_
    refine va_get (D := D) (ci := 6) (v := .int sco) (C := RK6) (T := TK6) (N := 4) hx hb hts inK6b hown hK hP 0 rfl rfl 1 (by decide) (hts _ (up wdt1_130)) (fun _ h9 => h9) rfl dJ1_inflateIfNeededFor_7 ?_
    refine lv_aload_n hx hb dJ1_inflateIfNeededFor_10 rfl (lv_at hl 1 rfl) ?_
    obtain ⟨x1, ec2, hm⟩ := bd1_s hm
    have hPc : va_P D vwCl [] H := va_P0
    have hDc : va_D A [] := va_D0
    have hFc := va_free (wc := []) hD hS hA [] rfl
    refine k_calli0 (va_runV (As := []) (rest := [.int sco]) ⟨hx, hb, hml, hown, hts⟩ (kJ3_coder l D cI cZ cB cC H.size xa xv xn xf x1 ec2) (cwV 0 hts (gdV2 (up wdt3_83) (up wdt3_71) (up wdt3_72) (up wdt1_8) gzJ3_coder) rfl rfl rfl (by decide +kernel) ⟨Nat.le_of_ble_eq_true rfl, Nat.le_of_ble_eq_true rfl⟩) ⟨PrE1_blind, va_Orecv hX.1 hS, fun U hU hW => ⟨rfl, Pr_at hK hN hPc hDc hU hW, EN_at hE hS hFc hU hW, StrK_at hX hS hFc hU hW⟩⟩ rfl rfl hl.1 rfl (lv_room (Nat.le_of_ble_eq_true rfl)) dJ1_inflateIfNeededFor_11 ⟨Nat.le_of_ble_eq_true rfl, Nat.le_of_ble_eq_true rfl⟩) hP hD hS hA (fun H locs hP hD hS => ?_)
    refine lv_icmp_eq (tgt := 21) hx hb dJ1_inflateIfNeededFor_14 (by decide) (fun hc => ?_) (fun hc => ?_)
    · replace hm := ift hm hc
      replace hm := Option.some.inj hm
      exact k_retv hx hb hr hlocks hP hD hS dJ1_inflateIfNeededFor_21
    · replace hm := iff_ hm hc
      refine lv_aload_n hx hb dJ1_inflateIfNeededFor_17 rfl (lv_at hl 0 rfl) ?_
      exact nomatch hm
def mJ1_putStringAt (sco : Int32) (sn : Nat) (sb : Nat → Int32) (xn : Nat) (xf : Nat → Int32) (v1 : Int32) : Option ((Nat → Int32)) :=
  bd0 (mJ1_inflateIfNeededFor sco) <| bd1 (mJ3_getBytes sn sb xn xf v1 sco) fun x2 => some x2
abbrev rmJ1_putStringAt : Room := { frames := 2, cells := 0, slots := 0, locals := 83 }
set_option maxHeartbeats 4000000 in
set_option maxRecDepth 100000 in
theorem kJ1_putStringAt (l : Launch) (D : va_G) (cI cZ cB cC : ClassId) (sz : Nat) (sa : Nat) (sco : Int32) (sml : Int32) (sct : Int32) (s_ad : Nat) (sn : Nat) (sb : Nat → Int32) (xa xv xn : Nat) (xf : Nat → Int32) (v1 : Int32) (sb_r : Nat → Int32) (hm : mJ1_putStringAt sco sn sb xn xf v1 = some sb_r) : Met l yJ1_putStringAt wzJ1_putStringAt rmJ1_putStringAt (va_Pc [.ref sa, .int v1, .ref xa] (PrE1 D (tyL cI cZ cB cC) sz (wS sa cI cZ cB cC sco sml sct s_ad sn sb) xa xv xn xf)) (QV D (va_A (wS sa cI cZ cB cC sco sml sct s_ad sn sb) sz) (wS sa cI cZ cB cC sco sml sct s_ad sn sb_r)) 0 0 (va_A (wS sa cI cZ cB cC sco sml sct s_ad sn sb) sz) := by
  refine Met.ofW (cc := cJ1_putStringAt) (maxL := 3) (ret := none) (by decide) rfl ?_
  intro p e s m args below meth c s₁ B hml hv
  obtain ⟨rfl, ⟨hsz, hP, hK, hD0, hN⟩, hE, hX⟩ := hv
  have hx := B.exec
  have hb := B.bytes
  have hr := B.returns
  have hts := htsB (atoms_spec (ws := wzJ1_putStringAt) B.pre)
  have hown : s.vm.findClass RJ1 = some m.cls := findClass_of_methodNamed B.named
  have hlocks := B.notSynchronized
  subst hsz
  have hD := hD0.self (sz := s.heap.size)
  generalize hAe : va_A (wS sa cI cZ cB cC sco sml sct s_ad sn sb) s.heap.size = A at hD hE hX ⊢
  have hA : ∀ q : Nat, s.heap.size ≤ q → A q := fun q h => by rw [← hAe]; exact Or.inr h
  refine kstart (A := A) hP (fun H hP hS => ?_)
  have hl := lv_entry ([.ref sa, .int v1, .ref xa]) (n := 3) (Nat.le_of_ble_eq_true rfl)
  rw [lg_entry_eq]
  generalize (lg_sl ([.ref sa, .int v1, .ref xa]) ++ List.replicate (3 - (lg_sl ([.ref sa, .int v1, .ref xa])).length) Slot.unset).toArray = ls at hl ⊢
  have hl : lv_has ls 3 [(0, .ref sa), (1, .int v1), (2, .ref xa)] := hl
  unfold mJ1_putStringAt at hm
  obtain ⟨hE0z, ⟨dg1, hE1z, hE1t⟩, ⟨dg2, hE2z, hE2t⟩, hE4, ⟨ka0, kv0, hkr0, hk0⟩, ⟨ka1, kv1, hkr1, hk1⟩, ⟨ka2, kv2, hkr2, hk2⟩⟩ := id hE
  refine lv_aload_n hx hb dJ1_putStringAt_0 rfl (lv_at hl 0 rfl) ?_
  refine lv_aload_n hx hb dJ1_putStringAt_1 rfl (lv_at hl 2 rfl) ?_
  obtain ⟨ec1, hm⟩ := bd0_s hm
  have hPc := hP.sub (ws' := (wS sa cI cZ cB cC sco sml sct s_ad sn sb)) [0, 1] rfl
  have hDc := hD.sub (ws' := (wS sa cI cZ cB cC sco sml sct s_ad sn sb)) [0, 1] (by decide) rfl
  have hFc := va_free (wc := (wS sa cI cZ cB cC sco sml sct s_ad sn sb)) hD hS hA [0, 1] rfl
  refine k_callv (wr := []) (w1 := (wS sa cI cZ cB cC sco sml sct s_ad sn sb)) (ws' := (wS sa cI cZ cB cC sco sml sct s_ad sn sb)) (va_runU (As := [.ref xa]) (rest := []) ⟨hx, hb, hml, hown, hts⟩ (kJ1_inflateIfNeededFor l D cI cZ cB cC H.size sa sco sml sct s_ad sn sb xa xv xn xf ec1) (va_cwU (C := RK6) (owner := RJ1) 1 hts (gdU2 (up wdt3_79) (up wdt4_210) (List.mem_append_left _ (List.mem_of_getElem? (l := sbSel) (i := 4) rfl)) (up wdt3_81) (up wdt1_6) gzJ1_inflateIfNeededFor) rfl rfl rfl rfl (by decide +kernel) ⟨Nat.le_of_ble_eq_true rfl, Nat.le_of_ble_eq_true rfl⟩) ⟨PrE1_blind, va_recv hK hPc (ci := 6) (q0 := 0) rfl rfl, fun U hU hW => ⟨rfl, Pr_at hK hN hPc hDc hU hW, EN_at hE hS hFc hU hW, StrK_at hX hS hFc hU hW⟩⟩ rfl rfl hl.1 rfl (lv_room (Nat.le_of_ble_eq_true rfl)) dJ1_putStringAt_2 ⟨Nat.le_of_ble_eq_true rfl, Nat.le_of_ble_eq_true rfl⟩) hP hD hS hA [0, 1] [] [0, 1] rfl rfl (by decide) (by decide) (by decide) rfl (fun H locs hP hD hS => ?_)
  refine lv_aload_n hx hb dJ1_putStringAt_5 rfl (lv_at hl 2 rfl) ?_
  refine lv_aload_n hx hb dJ1_putStringAt_6 rfl (lv_at hl 0 rfl) ?_
  refine va_get (D := D) (ci := 6) (v := .ref s_ad) (C := RK6) (T := TK6) (N := 4) hx hb hts inK6b hown hK hP 0 rfl rfl 0 (by decide) (hts _ (up wdt1_129)) (fun _ h9 => h9) rfl dJ1_putStringAt_7 ?_
  refine lv_iload_n hx hb dJ1_putStringAt_10 rfl (lv_at hl 1 rfl) ?_
  refine lv_aload_n hx hb dJ1_putStringAt_11 rfl (lv_at hl 0 rfl) ?_
  refine va_get (D := D) (ci := 6) (v := .int sco) (C := RK6) (T := TK6) (N := 4) hx hb hts inK6b hown hK hP 0 rfl rfl 1 (by decide) (hts _ (up wdt1_130)) (fun _ h9 => h9) rfl dJ1_putStringAt_12 ?_
  obtain ⟨x2, ec3, hm⟩ := bd1_s hm
  have hPc := hP.sub (ws' := (wB s_ad cI cZ cB cC sn sb)) [1] rfl
  have hDc := hD.sub (ws' := (wB s_ad cI cZ cB cC sn sb)) [1] (by decide) rfl
  have hFc := va_free (wc := (wB s_ad cI cZ cB cC sn sb)) hD hS hA [1] rfl
  refine k_callv (wr := [(sa, .inr (6, [.ref s_ad, .int sco, .int sml, .int sct]))]) (w1 := (wB s_ad cI cZ cB cC sn x2)) (ws' := (wS sa cI cZ cB cC sco sml sct s_ad sn x2)) (va_runV (As := [.ref s_ad, .int v1, .int sco]) (rest := []) ⟨hx, hb, hml, hown, hts⟩ (kJ3_getBytes l D cI cZ cB cC H.size s_ad sn sb xa xv xn xf v1 sco x2 ec3) (cwV 3 hts (gdV2 (up wdt3_103) (up wdt3_104) (up wdt3_105) (up wdt1_8) gzJ3_getBytes) rfl rfl rfl (by decide +kernel) ⟨Nat.le_of_ble_eq_true rfl, Nat.le_of_ble_eq_true rfl⟩) ⟨PrE1_blind, va_Orecv hX.1 hS, fun U hU hW => ⟨rfl, Pr_at hK hN hPc hDc hU hW, EN_at hE hS hFc hU hW, StrK_at hX hS hFc hU hW⟩⟩ rfl rfl hl.1 rfl (lv_room (Nat.le_of_ble_eq_true rfl)) dJ1_putStringAt_15 ⟨Nat.le_of_ble_eq_true rfl, Nat.le_of_ble_eq_true rfl⟩) hP hD hS hA [1] [0] [0, 1] rfl rfl (by decide) (by decide) (by decide) rfl (fun H locs hP hD hS => ?_)
  replace hm := Option.some.inj hm
  subst hm
  exact k_retv hx hb hr hlocks hP hD hS dJ1_putStringAt_18
def mJ2_getChars_A22 (bn : Nat) (s0j12 : Int32) (i0x22 : Int32) (i5x22 : Int32) (bfx22 : Nat → Int32) : Option (Int32 × (Nat → Int32)) :=
  bd1 (some (i5x22 + (-1))) fun x1 => bd1 (rd dgO 100 (-i0x22)) fun x2 => bd1 (wrt bfx22 bn x1 (vp_nar .byte x2)) fun x3 => if ((-9)) ≤ i0x22 then
  (if s0j12 = 0 then
    (some (x1, x3))
    else
    (bd1 (some (x1 + (-1))) fun x4 => bd1 (wrt x3 bn x4 (vp_nar .byte 45)) fun x5 => some (x4, x5)))
  else
  (bd1 (some (x1 + (-1))) fun x6 => bd1 (rd dgT 100 (-i0x22)) fun x7 => bd1 (wrt x3 bn x6 (vp_nar .byte x7)) fun x8 => if s0j12 = 0 then
    (some (x6, x8))
    else
    (bd1 (some (x6 + (-1))) fun x9 => bd1 (wrt x8 bn x9 (vp_nar .byte 45)) fun x10 => some (x9, x10)))
def mJ2_getChars_B22 (bn : Nat) (kx22 : Int32 → Int32 → (Nat → Int32) → (Option (Int32 × (Nat → Int32)))) (rc22 : Int32 → Int32 → (Nat → Int32) → (Option (Int32 × (Nat → Int32)))) (i0l22 : Int32) (i5l22 : Int32) (bfl22 : Nat → Int32) : Option (Int32 × (Nat → Int32)) :=
  if ((-100)) < i0l22 then
  (kx22 i0l22 i5l22 bfl22)
  else
  (bd1 (some (i0l22 / 100)) fun x11 => bd1 (some ((x11 * 100) - i0l22)) fun x12 => bd1 (some (i5l22 + (-1))) fun x13 => bd1 (rd dgO 100 x12) fun x14 => bd1 (wrt bfl22 bn x13 (vp_nar .byte x14)) fun x15 => bd1 (some (x13 + (-1))) fun x16 => bd1 (rd dgT 100 x12) fun x17 => bd1 (wrt x15 bn x16 (vp_nar .byte x17)) fun x18 => rc22 x11 x16 x18)
def mJ2_getChars_L22 (bn : Nat) (kx22 : Int32 → Int32 → (Nat → Int32) → (Option (Int32 × (Nat → Int32)))) : Nat → Int32 → Int32 → (Nat → Int32) → (Option (Int32 × (Nat → Int32)))
  | 0, _, _, _ => none
  | n + 1, i0l22, i5l22, bfl22 => mJ2_getChars_B22 bn kx22 (mJ2_getChars_L22 bn kx22 n) i0l22 i5l22 bfl22
def mJ2_getChars_J22 (bn : Nat) (bf : Nat → Int32) (v1 : Int32) (s0j12 : Int32) (i0j22 : Int32) : Option (Int32 × (Nat → Int32)) :=
  mJ2_getChars_L22 bn (mJ2_getChars_A22 bn s0j12) 5000 i0j22 v1 bf
def mJ2_getChars_J12 (bn : Nat) (bf : Nat → Int32) (v0 : Int32) (v1 : Int32) (s0j12 : Int32) : Option (Int32 × (Nat → Int32)) :=
  if s0j12 = 0 then
  (bd1 (some (-v0)) fun x19 => mJ2_getChars_J22 bn bf v1 s0j12 x19)
  else
  (mJ2_getChars_J22 bn bf v1 s0j12 v0)
def mJ2_getChars (bn : Nat) (bf : Nat → Int32) (v0 : Int32) (v1 : Int32) : Option (Int32 × (Nat → Int32)) :=
  if 0 ≤ v0 then
  (mJ2_getChars_J12 bn bf v0 v1 0)
  else
  (mJ2_getChars_J12 bn bf v0 v1 1)
abbrev rmJ2_getChars : Room := { frames := 0, cells := 0, slots := 0, locals := 0 }
set_option maxHeartbeats 4000000 in
set_option maxRecDepth 100000 in
theorem kJ2_getChars (l : Launch) (D : va_G) (cI cZ cB cC : ClassId) (sz : Nat) (ba : Nat) (bn : Nat) (bf : Nat → Int32) (v0 : Int32) (v1 : Int32) (r0 : Int32) (bf_r : Nat → Int32) (hm : mJ2_getChars bn bf v0 v1 = some (r0, bf_r)) : Met l yJ2_getChars wzJ2_getChars rmJ2_getChars (va_Pc [.int v0, .int v1, .ref ba] (PrE0 D (tyL cI cZ cB cC) sz (wB ba cI cZ cB cC bn bf))) (QI D (va_A (wB ba cI cZ cB cC bn bf) sz) r0 (wB ba cI cZ cB cC bn bf_r)) 0 0 (va_A (wB ba cI cZ cB cC bn bf) sz) := by
  refine Met.ofW (cc := cJ2_getChars) (maxL := 7) (ret := (some .int)) (by decide) rfl ?_
  intro p e s m args below meth c s₁ B hml hv
  obtain ⟨rfl, ⟨hsz, hP, hK, hD0, hN⟩, hE⟩ := hv
  have hx := B.exec
  have hb := B.bytes
  have hr := B.returns
  have hts := htsB (atoms_spec (ws := wzJ2_getChars) B.pre)
  have hown : s.vm.findClass RJ2 = some m.cls := findClass_of_methodNamed B.named
  have hlocks := B.notSynchronized
  subst hsz
  have hD := hD0.self (sz := s.heap.size)
  generalize hAe : va_A (wB ba cI cZ cB cC bn bf) s.heap.size = A at hD hE ⊢
  have hA : ∀ q : Nat, s.heap.size ≤ q → A q := fun q h => by rw [← hAe]; exact Or.inr h
  refine kstart (A := A) hP (fun H hP hS => ?_)
  have hl := lv_entry ([.int v0, .int v1, .ref ba]) (n := 7) (Nat.le_of_ble_eq_true rfl)
  rw [lg_entry_eq]
  generalize (lg_sl ([.int v0, .int v1, .ref ba]) ++ List.replicate (7 - (lg_sl ([.int v0, .int v1, .ref ba])).length) Slot.unset).toArray = ls at hl ⊢
  have hl : lv_has ls 7 [(0, .int v0), (1, .int v1), (2, .ref ba)] := hl
  unfold mJ2_getChars at hm
  obtain ⟨hE0z, ⟨dg1, hE1z, hE1t⟩, ⟨dg2, hE2z, hE2t⟩, hE4, ⟨ka0, kv0, hkr0, hk0⟩, ⟨ka1, kv1, hkr1, hk1⟩, ⟨ka2, kv2, hkr2, hk2⟩⟩ := id hE
  refine lv_iload_n hx hb dJ2_getChars_0 rfl (lv_at hl 1 rfl) ?_
  refine lv_istore (lv' := [(5, .int v1), (0, .int v0), (1, .int v1), (2, .ref ba)]) hx hb dJ2_getChars_1 hl (by decide) rfl (fun ls hl => ?_)
  refine lv_iload_n hx hb dJ2_getChars_3 rfl (lv_at hl 1 rfl) ?_
  have jn12 : ∀ (s0j12 : Int32) (H : Heap) (locs : List Loc) (ls : Array Slot), mJ2_getChars_J12 bn bf v0 v1 s0j12 = some (r0, bf_r) → va_P D vwCl (wB ba cI cZ cB cC bn bf) H → va_D A (wB ba cI cZ cB cC bn bf) → va_S A s.heap H locs → lv_has ls 7 [(0, .int v0), (2, .ref ba), (5, .int v1)] → W p l e (headSpec wzJ2_getChars rmJ2_getChars).room s m ([.int v0, .int v1, .ref ba] : List Value).toArray below meth c H locs 0 0 (MQ below (QI D A r0 (wB ba cI cZ cB cC bn bf_r)) ([.int v0, .int v1, .ref ba] : List Value).toArray s 0 0 A) (F0 m 12 ls [.int s0j12]) := by
    intro s0j12 H locs ls hm hP hD hS hl
    unfold mJ2_getChars_J12 at hm
    refine lv_istore (lv' := [(6, .int s0j12), (0, .int v0), (2, .ref ba), (5, .int v1)]) hx hb dJ2_getChars_12 hl (by decide) rfl (fun ls hl => ?_)
    refine lv_iload hx hb dJ2_getChars_14 (lv_at hl 0 rfl) ?_
    have jn22 : ∀ (i0j22 : Int32) (H : Heap) (locs : List Loc) (ls : Array Slot), mJ2_getChars_J22 bn bf v1 s0j12 i0j22 = some (r0, bf_r) → va_P D vwCl (wB ba cI cZ cB cC bn bf) H → va_D A (wB ba cI cZ cB cC bn bf) → va_S A s.heap H locs → lv_has ls 7 [(0, .int i0j22), (2, .ref ba), (5, .int v1), (6, .int s0j12)] → W p l e (headSpec wzJ2_getChars rmJ2_getChars).room s m ([.int v0, .int v1, .ref ba] : List Value).toArray below meth c H locs 0 0 (MQ below (QI D A r0 (wB ba cI cZ cB cC bn bf_r)) ([.int v0, .int v1, .ref ba] : List Value).toArray s 0 0 A) (F0 m 22 ls []) := by
      intro i0j22 H locs ls hm hP hD hS hl
      unfold mJ2_getChars_J22 at hm
      have lx22 : ∀ (i0x22 : Int32) (i5x22 : Int32) (bfx22 : Nat → Int32) (H : Heap) (locs : List Loc) (ls : Array Slot), mJ2_getChars_A22 bn s0j12 i0x22 i5x22 bfx22 = some (r0, bf_r) → va_P D vwCl (wB ba cI cZ cB cC bn bfx22) H → va_D A (wB ba cI cZ cB cC bn bfx22) → va_S A s.heap H locs → lv_has ls 7 [(0, .int i0x22), (2, .ref ba), (5, .int i5x22), (6, .int s0j12)] → W p l e (headSpec wzJ2_getChars rmJ2_getChars).room s m ([.int v0, .int v1, .ref ba] : List Value).toArray below meth c H locs 0 0 (MQ below (QI D A r0 (wB ba cI cZ cB cC bn bf_r)) ([.int v0, .int v1, .ref ba] : List Value).toArray s 0 0 A) (F0 m 72 ls []) := by
        intro i0x22 i5x22 bfx22 H locs ls hm hP hD hS hl
        unfold mJ2_getChars_A22 at hm
        refine lv_aload_n hx hb dJ2_getChars_72 rfl (lv_at hl 1 rfl) ?_
        obtain ⟨x1, ex1, hm⟩ := bd1_s hm
        refine lv_iinc (v := x1) (lv' := [(5, .int x1), (0, .int i0x22), (2, .ref ba), (6, .int s0j12)]) hx hb dJ2_getChars_73 hl (k := 2) rfl (by rw [← Option.some.inj ex1]; rfl) (by decide) rfl (fun ls hl => ?_)
        refine lv_iload hx hb dJ2_getChars_76 (lv_at hl 0 rfl) ?_
        refine va_gets hx hb hE1z hS hown (hts _ (up wdt3_129)) (fun _ h9 => h9) dJ2_getChars_78 ?_
        refine lv_iload_n hx hb dJ2_getChars_81 rfl (lv_at hl 1 rfl) ?_
        refine lv_ineg hx hb dJ2_getChars_82 ?_
        obtain ⟨x2, ex2, hm⟩ := bd1_s hm
        obtain ⟨hix2, ex2⟩ := rd_s ex2
        refine va_tb hx hb hE1t hS hix2 (v := .int x2) (congrArg Value.int ex2) dJ2_getChars_83 ?_
        obtain ⟨x3, ex3, hm⟩ := bd1_s hm
        obtain ⟨hix3, ex3⟩ := wrt_s ex3
        refine va_bast hx hb hK hP hD hS 0 2 rfl rfl hix3 dJ2_getChars_84 (fun H locs hP hD hS => ?_)
        rw [ex3] at hP hD
        have hP : va_P D vwCl (wB ba cI cZ cB cC bn x3) H := hP
        have hD : va_D A (wB ba cI cZ cB cC bn x3) := hD
        refine lv_iload_n hx hb dJ2_getChars_85 rfl (lv_at hl 1 rfl) ?_
        refine lv_bipush (v := (-9)) hx hb dJ2_getChars_86 (by decide) ?_
        refine lv_icmp_ge (tgt := 104) hx hb dJ2_getChars_88 (by decide) (fun hc => ?_) (fun hc => ?_)
        · replace hm := ift hm hc
          refine lv_iload hx hb dJ2_getChars_104 (lv_at hl 3 rfl) ?_
          refine lv_if_eq (tgt := 118) hx hb dJ2_getChars_106 (by decide) (fun hc => ?_) (fun hc => ?_)
          · replace hm := ift hm hc
            refine lv_iload hx hb dJ2_getChars_118 (lv_at hl 0 rfl) ?_
            replace hm := Option.some.inj hm
            simp only [Prod.mk.injEq] at hm
            obtain ⟨rfl, rfl⟩ := hm
            exact k_reti hx hb hr hlocks hP hD hS dJ2_getChars_120
          · replace hm := iff_ hm hc
            refine lv_aload_n hx hb dJ2_getChars_109 rfl (lv_at hl 2 rfl) ?_
            obtain ⟨x4, ex4, hm⟩ := bd1_s hm
            refine lv_iinc (v := x4) (lv' := [(5, .int x4), (0, .int i0x22), (2, .ref ba), (6, .int s0j12)]) hx hb dJ2_getChars_110 hl (k := 0) rfl (by rw [← Option.some.inj ex4]; rfl) (by decide) rfl (fun ls hl => ?_)
            refine lv_iload hx hb dJ2_getChars_113 (lv_at hl 0 rfl) ?_
            refine lv_bipush (v := 45) hx hb dJ2_getChars_115 (by decide) ?_
            obtain ⟨x5, ex5, hm⟩ := bd1_s hm
            obtain ⟨hix5, ex5⟩ := wrt_s ex5
            refine va_bast hx hb hK hP hD hS 0 2 rfl rfl hix5 dJ2_getChars_117 (fun H locs hP hD hS => ?_)
            rw [ex5] at hP hD
            have hP : va_P D vwCl (wB ba cI cZ cB cC bn x5) H := hP
            have hD : va_D A (wB ba cI cZ cB cC bn x5) := hD
            refine lv_iload hx hb dJ2_getChars_118 (lv_at hl 0 rfl) ?_
            replace hm := Option.some.inj hm
            simp only [Prod.mk.injEq] at hm
            obtain ⟨rfl, rfl⟩ := hm
            exact k_reti hx hb hr hlocks hP hD hS dJ2_getChars_120
        · replace hm := iff_ hm hc
          refine lv_aload_n hx hb dJ2_getChars_91 rfl (lv_at hl 2 rfl) ?_
          obtain ⟨x6, ex6, hm⟩ := bd1_s hm
          refine lv_iinc (v := x6) (lv' := [(5, .int x6), (0, .int i0x22), (2, .ref ba), (6, .int s0j12)]) hx hb dJ2_getChars_92 hl (k := 0) rfl (by rw [← Option.some.inj ex6]; rfl) (by decide) rfl (fun ls hl => ?_)
          refine lv_iload hx hb dJ2_getChars_95 (lv_at hl 0 rfl) ?_
          refine va_gets hx hb hE2z hS hown (hts _ (up wdt3_131)) (fun _ h9 => h9) dJ2_getChars_97 ?_
          refine lv_iload_n hx hb dJ2_getChars_100 rfl (lv_at hl 1 rfl) ?_
          refine lv_ineg hx hb dJ2_getChars_101 ?_
          obtain ⟨x7, ex7, hm⟩ := bd1_s hm
          obtain ⟨hix7, ex7⟩ := rd_s ex7
          refine va_tb hx hb hE2t hS hix7 (v := .int x7) (congrArg Value.int ex7) dJ2_getChars_102 ?_
          obtain ⟨x8, ex8, hm⟩ := bd1_s hm
          obtain ⟨hix8, ex8⟩ := wrt_s ex8
          refine va_bast hx hb hK hP hD hS 0 2 rfl rfl hix8 dJ2_getChars_103 (fun H locs hP hD hS => ?_)
          rw [ex8] at hP hD
          have hP : va_P D vwCl (wB ba cI cZ cB cC bn x8) H := hP
          have hD : va_D A (wB ba cI cZ cB cC bn x8) := hD
          refine lv_iload hx hb dJ2_getChars_104 (lv_at hl 3 rfl) ?_
          refine lv_if_eq (tgt := 118) hx hb dJ2_getChars_106 (by decide) (fun hc => ?_) (fun hc => ?_)
          · replace hm := ift hm hc
            refine lv_iload hx hb dJ2_getChars_118 (lv_at hl 0 rfl) ?_
            replace hm := Option.some.inj hm
            simp only [Prod.mk.injEq] at hm
            obtain ⟨rfl, rfl⟩ := hm
            exact k_reti hx hb hr hlocks hP hD hS dJ2_getChars_120
          · replace hm := iff_ hm hc
            refine lv_aload_n hx hb dJ2_getChars_109 rfl (lv_at hl 2 rfl) ?_
            obtain ⟨x9, ex9, hm⟩ := bd1_s hm
            refine lv_iinc (v := x9) (lv' := [(5, .int x9), (0, .int i0x22), (2, .ref ba), (6, .int s0j12)]) hx hb dJ2_getChars_110 hl (k := 0) rfl (by rw [← Option.some.inj ex9]; rfl) (by decide) rfl (fun ls hl => ?_)
            refine lv_iload hx hb dJ2_getChars_113 (lv_at hl 0 rfl) ?_
            refine lv_bipush (v := 45) hx hb dJ2_getChars_115 (by decide) ?_
            obtain ⟨x10, ex10, hm⟩ := bd1_s hm
            obtain ⟨hix10, ex10⟩ := wrt_s ex10
            refine va_bast hx hb hK hP hD hS 0 2 rfl rfl hix10 dJ2_getChars_117 (fun H locs hP hD hS => ?_)
            rw [ex10] at hP hD
            have hP : va_P D vwCl (wB ba cI cZ cB cC bn x10) H := hP
            have hD : va_D A (wB ba cI cZ cB cC bn x10) := hD
            refine lv_iload hx hb dJ2_getChars_118 (lv_at hl 0 rfl) ?_
            replace hm := Option.some.inj hm
            simp only [Prod.mk.injEq] at hm
            obtain ⟨rfl, rfl⟩ := hm
            exact k_reti hx hb hr hlocks hP hD hS dJ2_getChars_120
      have lp22 : ∀ (n22 : Nat) (i0l22 : Int32) (i5l22 : Int32) (bfl22 : Nat → Int32) (H : Heap) (locs : List Loc) (ls : Array Slot), mJ2_getChars_L22 bn (mJ2_getChars_A22 bn s0j12) n22 i0l22 i5l22 bfl22 = some (r0, bf_r) → va_P D vwCl (wB ba cI cZ cB cC bn bfl22) H → va_D A (wB ba cI cZ cB cC bn bfl22) → va_S A s.heap H locs → lv_has ls 7 [(0, .int i0l22), (2, .ref ba), (5, .int i5l22), (6, .int s0j12)] → W p l e (headSpec wzJ2_getChars rmJ2_getChars).room s m ([.int v0, .int v1, .ref ba] : List Value).toArray below meth c H locs 0 0 (MQ below (QI D A r0 (wB ba cI cZ cB cC bn bf_r)) ([.int v0, .int v1, .ref ba] : List Value).toArray s 0 0 A) (F0 m 22 ls []) := by
        intro n22
        induction n22 with
        | zero => intro i0l22 i5l22 bfl22 H locs ls hm; exact nomatch (show none = _ from hm)
        | succ n22 ih22 =>
          intro i0l22 i5l22 bfl22 H locs ls hm hP hD hS hl
          replace hm : mJ2_getChars_B22 bn (mJ2_getChars_A22 bn s0j12) (mJ2_getChars_L22 bn (mJ2_getChars_A22 bn s0j12) n22) i0l22 i5l22 bfl22 = some (r0, bf_r) := hm
          unfold mJ2_getChars_B22 at hm
          refine lv_iload_n hx hb dJ2_getChars_22 rfl (lv_at hl 0 rfl) ?_
          refine lv_bipush (v := (-100)) hx hb dJ2_getChars_23 (by decide) ?_
          refine lv_icmp_gt (tgt := 72) hx hb dJ2_getChars_25 (by decide) (fun hc => ?_) (fun hc => ?_)
          · replace hm := ift hm hc
            exact lx22 i0l22 i5l22 bfl22 _ _ _ hm hP hD hS (lv_sub hl [0, 1, 2, 3] rfl)
          · replace hm := iff_ hm hc
            refine lv_iload_n hx hb dJ2_getChars_28 rfl (lv_at hl 0 rfl) ?_
            refine lv_bipush (v := 100) hx hb dJ2_getChars_29 (by decide) ?_
            refine lv_idiv hx hb dJ2_getChars_31 (by decide) ?_
            obtain ⟨x11, ex11, hm⟩ := bd1_s hm
            refine topi (Option.some.inj ex11) ?_
            refine lv_istore_n (lv' := [(3, .int x11), (0, .int i0l22), (2, .ref ba), (5, .int i5l22), (6, .int s0j12)]) hx hb dJ2_getChars_32 rfl hl (by decide) rfl (fun ls hl => ?_)
            refine lv_iload_n hx hb dJ2_getChars_33 rfl (lv_at hl 0 rfl) ?_
            refine lv_bipush (v := 100) hx hb dJ2_getChars_34 (by decide) ?_
            refine lv_imul hx hb dJ2_getChars_36 ?_
            refine lv_iload_n hx hb dJ2_getChars_37 rfl (lv_at hl 1 rfl) ?_
            refine lv_isub hx hb dJ2_getChars_38 ?_
            obtain ⟨x12, ex12, hm⟩ := bd1_s hm
            refine topi (Option.some.inj ex12) ?_
            refine lv_istore (lv' := [(4, .int x12), (3, .int x11), (0, .int i0l22), (2, .ref ba), (5, .int i5l22), (6, .int s0j12)]) hx hb dJ2_getChars_39 hl (by decide) rfl (fun ls hl => ?_)
            refine lv_iload_n hx hb dJ2_getChars_41 rfl (lv_at hl 1 rfl) ?_
            refine lv_istore_n (lv' := [(0, .int x11), (4, .int x12), (3, .int x11), (2, .ref ba), (5, .int i5l22), (6, .int s0j12)]) hx hb dJ2_getChars_42 rfl hl (by decide) rfl (fun ls hl => ?_)
            refine lv_aload_n hx hb dJ2_getChars_43 rfl (lv_at hl 3 rfl) ?_
            obtain ⟨x13, ex13, hm⟩ := bd1_s hm
            refine lv_iinc (v := x13) (lv' := [(5, .int x13), (0, .int x11), (4, .int x12), (3, .int x11), (2, .ref ba), (6, .int s0j12)]) hx hb dJ2_getChars_44 hl (k := 4) rfl (by rw [← Option.some.inj ex13]; rfl) (by decide) rfl (fun ls hl => ?_)
            refine lv_iload hx hb dJ2_getChars_47 (lv_at hl 0 rfl) ?_
            refine va_gets hx hb hE1z hS hown (hts _ (up wdt3_129)) (fun _ h9 => h9) dJ2_getChars_49 ?_
            refine lv_iload hx hb dJ2_getChars_52 (lv_at hl 2 rfl) ?_
            obtain ⟨x14, ex14, hm⟩ := bd1_s hm
            obtain ⟨hix14, ex14⟩ := rd_s ex14
            refine va_tb hx hb hE1t hS hix14 (v := .int x14) (congrArg Value.int ex14) dJ2_getChars_54 ?_
            obtain ⟨x15, ex15, hm⟩ := bd1_s hm
            obtain ⟨hix15, ex15⟩ := wrt_s ex15
            refine va_bast hx hb hK hP hD hS 0 2 rfl rfl hix15 dJ2_getChars_55 (fun H locs hP hD hS => ?_)
            rw [ex15] at hP hD
            have hP : va_P D vwCl (wB ba cI cZ cB cC bn x15) H := hP
            have hD : va_D A (wB ba cI cZ cB cC bn x15) := hD
            refine lv_aload_n hx hb dJ2_getChars_56 rfl (lv_at hl 4 rfl) ?_
            obtain ⟨x16, ex16, hm⟩ := bd1_s hm
            refine lv_iinc (v := x16) (lv' := [(5, .int x16), (0, .int x11), (4, .int x12), (3, .int x11), (2, .ref ba), (6, .int s0j12)]) hx hb dJ2_getChars_57 hl (k := 0) rfl (by rw [← Option.some.inj ex16]; rfl) (by decide) rfl (fun ls hl => ?_)
            refine lv_iload hx hb dJ2_getChars_60 (lv_at hl 0 rfl) ?_
            refine va_gets hx hb hE2z hS hown (hts _ (up wdt3_131)) (fun _ h9 => h9) dJ2_getChars_62 ?_
            refine lv_iload hx hb dJ2_getChars_65 (lv_at hl 2 rfl) ?_
            obtain ⟨x17, ex17, hm⟩ := bd1_s hm
            obtain ⟨hix17, ex17⟩ := rd_s ex17
            refine va_tb hx hb hE2t hS hix17 (v := .int x17) (congrArg Value.int ex17) dJ2_getChars_67 ?_
            obtain ⟨x18, ex18, hm⟩ := bd1_s hm
            obtain ⟨hix18, ex18⟩ := wrt_s ex18
            refine va_bast hx hb hK hP hD hS 0 2 rfl rfl hix18 dJ2_getChars_68 (fun H locs hP hD hS => ?_)
            rw [ex18] at hP hD
            have hP : va_P D vwCl (wB ba cI cZ cB cC bn x18) H := hP
            have hD : va_D A (wB ba cI cZ cB cC bn x18) := hD
            refine lv_goto (tgt := 22) hx hb dJ2_getChars_69 (by decide) ?_
            exact ih22 x11 x16 x18 _ _ _ hm hP hD hS (lv_sub hl [1, 4, 0, 5] rfl)
      exact lp22 5000 i0j22 v1 bf _ _ _ hm hP hD hS (lv_sub hl [0, 1, 2, 3] rfl)
    refine lv_if_ne (tgt := 22) hx hb dJ2_getChars_16 (by decide) (fun hc => ?_) (fun hc => ?_)
    · replace hm := iff_ hm hc
      exact jn22 v0 _ _ _ hm hP hD hS (lv_sub hl [1, 2, 3, 0] rfl)
    · replace hm := ift hm hc
      refine lv_iload_n hx hb dJ2_getChars_19 rfl (lv_at hl 1 rfl) ?_
      refine lv_ineg hx hb dJ2_getChars_20 ?_
      obtain ⟨x19, ex19, hm⟩ := bd1_s hm
      refine topi (Option.some.inj ex19) ?_
      refine lv_istore_n (lv' := [(0, .int x19), (6, .int s0j12), (2, .ref ba), (5, .int v1)]) hx hb dJ2_getChars_21 rfl hl (by decide) rfl (fun ls hl => ?_)
      exact jn22 x19 _ _ _ hm hP hD hS (lv_sub hl [0, 2, 3, 1] rfl)
  refine lv_if_ge (tgt := 11) hx hb dJ2_getChars_4 (by decide) (fun hc => ?_) (fun hc => ?_)
  · replace hm := ift hm hc
    refine lv_iconst (v := 0) hx hb dJ2_getChars_11 (by decide) ?_
    exact jn12 0 _ _ _ hm hP hD hS (lv_sub hl [1, 3, 0] rfl)
  · replace hm := iff_ hm hc
    refine lv_iconst (v := 1) hx hb dJ2_getChars_7 (by decide) ?_
    refine lv_goto (tgt := 12) hx hb dJ2_getChars_8 (by decide) ?_
    exact jn12 1 _ _ _ hm hP hD hS (lv_sub hl [1, 3, 0] rfl)
