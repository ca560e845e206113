def mK0_isOf (trme : Nat → Int32) (v1 : Int32) (v2 : Int32) : Option (Int32) :=
  bd1 (mK0_isNode v1) fun x1 => if x1 = 0 then
  (some ((-1)))
  else
  (bd1 (mK0_isNode v2) fun x3 => if x3 = 0 then
    (some ((-1)))
    else
    (bd1 (mK1_isMember trme v1 v2) fun x5 => if x5 = 0 then
      (some 0)
      else
      (some 1)))
abbrev rmK0_isOf : Room := { frames := 2, cells := 0, slots := 0, locals := 43 }
set_option maxHeartbeats 4000000 in
set_option maxRecDepth 100000 in
theorem kK0_isOf (l : Launch) (D : va_G) (cI cZ cB cC : ClassId) (sz : Nat) (oa : Nat) (tra : Nat) (tra1 : Nat) (tra2 : Nat) (tra3 : Nat) (tia : Nat) (tia1 : Nat) (tia2 : Nat) (tia3 : Nat) (rua : Nat) (rua1 : Nat) (rua2 : Nat) (rua3 : Nat) (rua4 : Nat) (cha : Nat) (cha1 : Nat) (cha2 : Nat) (cha3 : Nat) (foa : Nat) (foa1 : Nat) (foa2 : Nat) (sba : Nat) (ocs : Int32) (oal : Int32) (olt : Int32) (ols : Int32) (trso : Int32) (trob : Nat → Int32) (trme : Nat → Int32) (trwi : Nat → Int32) (tiso : Int32) (tiob : Nat → Int32) (time : Nat → Int32) (tiwi : Nat → Int32) (run : Int32) (ruki : Nat → Int32) (ruta : Nat → Int32) (rupr : Nat → Int32) (runu : Nat → Int32) (chn : Int32) (chpu : Nat → Int32) (chco : Nat → Int32) (chwe : Nat → Int32) (fon : Int32) (fose : Nat → Int32) (fosu : Nat → Int32) (v1 : Int32) (v2 : Int32) (r0 : Int32) (hm : mK0_isOf trme v1 v2 = some r0) : Met l yK0_isOf wsK0_isOf rmK0_isOf (va_Pc [.ref oa, .int v1, .int v2] (Pr D (tyL cI cZ cB cC) sz (wM oa tra tra1 tra2 tra3 tia tia1 tia2 tia3 rua rua1 rua2 rua3 rua4 cha cha1 cha2 cha3 foa foa1 foa2 sba cI cZ cB cC ocs oal olt ols trso trob trme trwi tiso tiob time tiwi run ruki ruta rupr runu chn chpu chco chwe fon fose fosu))) (QI D (va_A (wM oa tra tra1 tra2 tra3 tia tia1 tia2 tia3 rua rua1 rua2 rua3 rua4 cha cha1 cha2 cha3 foa foa1 foa2 sba cI cZ cB cC ocs oal olt ols trso trob trme trwi tiso tiob time tiwi run ruki ruta rupr runu chn chpu chco chwe fon fose fosu) sz) r0 (wM oa tra tra1 tra2 tra3 tia tia1 tia2 tia3 rua rua1 rua2 rua3 rua4 cha cha1 cha2 cha3 foa foa1 foa2 sba cI cZ cB cC ocs oal olt ols trso trob trme trwi tiso tiob time tiwi run ruki ruta rupr runu chn chpu chco chwe fon fose fosu)) 0 0 (va_A (wM oa tra tra1 tra2 tra3 tia tia1 tia2 tia3 rua rua1 rua2 rua3 rua4 cha cha1 cha2 cha3 foa foa1 foa2 sba cI cZ cB cC ocs oal olt ols trso trob trme trwi tiso tiob time tiwi run ruki ruta rupr runu chn chpu chco chwe fon fose fosu) sz) := by
  refine Met.ofW (cc := cK0_isOf) (maxL := 3) (ret := (some .int)) (by decide) rfl ?_
  intro p e s m args below meth c s₁ B hml hv
  obtain ⟨rfl, hsz, hP, hK, hD0, hN⟩ := hv
  have hx := B.exec
  have hb := B.bytes
  have hr := B.returns
  have hts := htsA (atoms_spec (ws := wsK0_isOf) B.pre)
  have hown : s.vm.findClass RK0 = some m.cls := findClass_of_methodNamed B.named
  have hlocks := B.notSynchronized
  subst hsz
  have hD := hD0.self (sz := s.heap.size)
  generalize hAe : va_A (wM oa tra tra1 tra2 tra3 tia tia1 tia2 tia3 rua rua1 rua2 rua3 rua4 cha cha1 cha2 cha3 foa foa1 foa2 sba cI cZ cB cC ocs oal olt ols trso trob trme trwi tiso tiob time tiwi run ruki ruta rupr runu chn chpu chco chwe fon fose fosu) s.heap.size = A at hD ⊢
  have hA : ∀ q : Nat, s.heap.size ≤ q → A q := fun q h => by rw [← hAe]; exact Or.inr h
  refine kstart (A := A) hP (fun H hP hS => ?_)
  have hl := lv_entry ([.ref oa, .int v1, .int v2]) (n := 3) (Nat.le_of_ble_eq_true rfl)
  rw [lg_entry_eq]
  generalize (lg_sl ([.ref oa, .int v1, .int v2]) ++ List.replicate (3 - (lg_sl ([.ref oa, .int v1, .int v2])).length) Slot.unset).toArray = ls at hl ⊢
  have hl : lv_has ls 3 [(0, .ref oa), (1, .int v1), (2, .int v2)] := hl
  unfold mK0_isOf at hm
  refine lv_iload_n hx hb dK0_isOf_0 rfl (lv_at hl 1 rfl) ?_
  obtain ⟨x1, ec2, hm⟩ := bd1_s hm
  have hPc : va_P D vwCl [] H := va_P0
  have hDc : va_D A [] := va_D0
  refine k_calli0 (va_runS (As := [.int v1]) (rest := []) ⟨hx, hb, hml, hown, hts⟩ (kK0_isNode l D cI cZ cB cC H.size v1 x1 ec2) (va_cwS 1 hts (gdS wdt1_185 wdt1_186 wdt1_1 gkK0_isNode) rfl rfl rfl (by decide +kernel) ⟨Nat.le_of_ble_eq_true rfl, Nat.le_of_ble_eq_true rfl⟩) ⟨Pr_blind, fun U hU hW => ⟨rfl, Pr_at hK hN hPc hDc hU hW⟩⟩ rfl rfl hl.1 rfl (lv_room (Nat.le_of_ble_eq_true rfl)) dK0_isOf_1 ⟨Nat.le_of_ble_eq_true rfl, Nat.le_of_ble_eq_true rfl⟩) hP hD hS hA (fun H locs hP hD hS => ?_)
  refine lv_if_eq (tgt := 14) hx hb dK0_isOf_4 (by decide) (fun hc => ?_) (fun hc => ?_)
  · replace hm := ift hm hc
    refine lv_iconst (v := (-1)) hx hb dK0_isOf_14 (by decide) ?_
    replace hm := Option.some.inj hm
    subst hm
    exact k_reti hx hb hr hlocks hP hD hS dK0_isOf_15
  · replace hm := iff_ hm hc
    refine lv_iload_n hx hb dK0_isOf_7 rfl (lv_at hl 2 rfl) ?_
    obtain ⟨x3, ec4, hm⟩ := bd1_s hm
    have hPc : va_P D vwCl [] H := va_P0
    have hDc : va_D A [] := va_D0
    refine k_calli0 (va_runS (As := [.int v2]) (rest := []) ⟨hx, hb, hml, hown, hts⟩ (kK0_isNode l D cI cZ cB cC H.size v2 x3 ec4) (va_cwS 1 hts (gdS wdt1_185 wdt1_186 wdt1_1 gkK0_isNode) rfl rfl rfl (by decide +kernel) ⟨Nat.le_of_ble_eq_true rfl, Nat.le_of_ble_eq_true rfl⟩) ⟨Pr_blind, fun U hU hW => ⟨rfl, Pr_at hK hN hPc hDc hU hW⟩⟩ rfl rfl hl.1 rfl (lv_room (Nat.le_of_ble_eq_true rfl)) dK0_isOf_8 ⟨Nat.le_of_ble_eq_true rfl, Nat.le_of_ble_eq_true rfl⟩) hP hD hS hA (fun H locs hP hD hS => ?_)
    refine lv_if_ne (tgt := 16) hx hb dK0_isOf_11 (by decide) (fun hc => ?_) (fun hc => ?_)
    · replace hm := iff_ hm hc
      refine lv_aload_n hx hb dK0_isOf_16 rfl (lv_at hl 0 rfl) ?_
      refine va_get (D := D) (ci := 0) (v := .ref tra) (C := RK0) (T := TK0) (N := 10) hx hb hts inK0 hown hK hP 0 rfl rfl 0 (by decide) (hts _ wdt1_143) (fun _ h9 => h9) rfl dK0_isOf_17 ?_
      refine lv_iload_n hx hb dK0_isOf_20 rfl (lv_at hl 1 rfl) ?_
      refine lv_iload_n hx hb dK0_isOf_21 rfl (lv_at hl 2 rfl) ?_
      obtain ⟨x5, ec6, hm⟩ := bd1_s hm
      have hPc := hP.sub (ws' := (wT tra tra1 tra2 tra3 cI cZ cB cC trso trob trme trwi)) [1, 2, 3, 4] rfl
      have hDc := hD.sub (ws' := (wT tra tra1 tra2 tra3 cI cZ cB cC trso trob trme trwi)) [1, 2, 3, 4] (by decide) rfl
      refine k_calli (wr := [(oa, .inr (0, [.ref tra, .ref tia, .ref rua, .ref cha, .ref foa, .ref sba, .int ocs, .int oal, .int olt, .int ols])), (tia, .inr (1, [.ref tia1, .ref tia2, .ref tia3, .int tiso])), (tia1, .inl (cI, 72, .inl tiob)), (tia2, .inl (cI, 12, .inl time)), (tia3, .inl (cI, 12, .inl tiwi)), (rua, .inr (2, [.ref rua1, .ref rua2, .ref rua3, .ref rua4, .int run])), (rua1, .inl (cI, 10, .inl ruki)), (rua2, .inl (cI, 10, .inl ruta)), (rua3, .inl (cI, 10, .inl rupr)), (rua4, .inl (cI, 10, .inl runu)), (cha, .inr (3, [.ref cha1, .ref cha2, .ref cha3, .int chn])), (cha1, .inl (cZ, 12, .inl chpu)), (cha2, .inl (cI, 12, .inl chco)), (cha3, .inl (cI, 12, .inl chwe)), (foa, .inr (4, [.ref foa1, .ref foa2, .int fon])), (foa1, .inl (cI, 30, .inl fose)), (foa2, .inl (cI, 30, .inl fosu))]) (w1 := (wT tra tra1 tra2 tra3 cI cZ cB cC trso trob trme trwi)) (ws' := (wM oa tra tra1 tra2 tra3 tia tia1 tia2 tia3 rua rua1 rua2 rua3 rua4 cha cha1 cha2 cha3 foa foa1 foa2 sba cI cZ cB cC ocs oal olt ols trso trob trme trwi tiso tiob time tiwi run ruki ruta rupr runu chn chpu chco chwe fon fose fosu)) (va_runV (As := [.int v1, .int v2]) (rest := []) ⟨hx, hb, hml, hown, hts⟩ (kK1_isMember l D cI cZ cB cC H.size tra tra1 tra2 tra3 trso trob trme trwi v1 v2 x5 ec6) (cwV 2 hts (gdV wdt2_46 wdt2_47 wdt2_48 wdt1_2 gkK1_isMember) rfl rfl rfl (by decide +kernel) ⟨Nat.le_of_ble_eq_true rfl, Nat.le_of_ble_eq_true rfl⟩) ⟨Pr_blind, va_recv hK hPc (ci := 1) (q0 := 0) rfl rfl, fun U hU hW => ⟨rfl, Pr_at hK hN hPc hDc hU hW⟩⟩ rfl rfl hl.1 rfl (lv_room (Nat.le_of_ble_eq_true rfl)) dK0_isOf_22 ⟨Nat.le_of_ble_eq_true rfl, Nat.le_of_ble_eq_true rfl⟩) hP hD hS hA [1, 2, 3, 4] [0, 5, 6, 7, 8, 9, 10, 11, 12, 13, 14, 15, 16, 17, 18, 19, 20] [0, 17, 18, 19, 20, 1, 2, 3, 4, 5, 6, 7, 8, 9, 10, 11, 12, 13, 14, 15, 16] rfl rfl (by decide) (by decide) (by decide) rfl (fun H locs hP hD hS => ?_)
      refine lv_if_eq (tgt := 32) hx hb dK0_isOf_25 (by decide) (fun hc => ?_) (fun hc => ?_)
      · replace hm := ift hm hc
        refine lv_iconst (v := 0) hx hb dK0_isOf_32 (by decide) ?_
        replace hm := Option.some.inj hm
        subst hm
        exact k_reti hx hb hr hlocks hP hD hS dK0_isOf_33
      · replace hm := iff_ hm hc
        refine lv_iconst (v := 1) hx hb dK0_isOf_28 (by decide) ?_
        refine lv_goto (tgt := 33) hx hb dK0_isOf_29 (by decide) ?_
        replace hm := Option.some.inj hm
        subst hm
        exact k_reti hx hb hr hlocks hP hD hS dK0_isOf_33
    · replace hm := ift hm hc
      refine lv_iconst (v := (-1)) hx hb dK0_isOf_14 (by decide) ?_
      replace hm := Option.some.inj hm
      subst hm
      exact k_reti hx hb hr hlocks hP hD hS dK0_isOf_15
def mK1_leadingInto_A4 (i2x4 : Int32) : Option (Int32) :=
  some i2x4
def mK1_leadingInto_B4 (tob : Nat → Int32) (v1 : Int32) (kx4 : Int32 → Option (Int32)) (rc4 : Int32 → Int32 → Option (Int32)) (i2l4 : Int32) (i3l4 : Int32) : Option (Int32) :=
  if 12 ≤ i3l4 then
  (kx4 i2l4)
  else
  (bd1 (mK1_objectsOf tob i3l4 1) fun x1 => if (x1 &&& v1) = 0 then
    (bd1 (some (i3l4 + 1)) fun x3 => rc4 i2l4 x3)
    else
    (bd1 (some (i2l4 ||| (1 <<< (i3l4 &&& 31)))) fun x4 => bd1 (some (i3l4 + 1)) fun x5 => rc4 x4 x5))
def mK1_leadingInto_L4 (tob : Nat → Int32) (v1 : Int32) (kx4 : Int32 → Option (Int32)) : Nat → Int32 → Int32 → Option (Int32)
  | 0, _, _ => none
  | n + 1, i2l4, i3l4 => mK1_leadingInto_B4 tob v1 kx4 (mK1_leadingInto_L4 tob v1 kx4 n) i2l4 i3l4
def mK1_leadingInto (tob : Nat → Int32) (v1 : Int32) : Option (Int32) :=
  mK1_leadingInto_L4 tob v1 (mK1_leadingInto_A4) 5000 0 0
abbrev rmK1_leadingInto : Room := { frames := 1, cells := 0, slots := 0, locals := 22 }
set_option maxHeartbeats 4000000 in
set_option maxRecDepth 100000 in
theorem kK1_leadingInto (l : Launch) (D : va_G) (cI cZ cB cC : ClassId) (sz : Nat) (ta : Nat) (ta1 : Nat) (ta2 : Nat) (ta3 : Nat) (tso : Int32) (tob : Nat → Int32) (tme : Nat → Int32) (twi : Nat → Int32) (v1 : Int32) (r0 : Int32) (hm : mK1_leadingInto tob v1 = some r0) : Met l yK1_leadingInto wsK1_leadingInto rmK1_leadingInto (va_Pc [.ref ta, .int v1] (Pr D (tyL cI cZ cB cC) sz (wT ta ta1 ta2 ta3 cI cZ cB cC tso tob tme twi))) (QI D (va_A (wT ta ta1 ta2 ta3 cI cZ cB cC tso tob tme twi) sz) r0 (wT ta ta1 ta2 ta3 cI cZ cB cC tso tob tme twi)) 0 0 (va_A (wT ta ta1 ta2 ta3 cI cZ cB cC tso tob tme twi) sz) := by
  refine Met.ofW (cc := cK1_leadingInto) (maxL := 4) (ret := (some .int)) (by decide) rfl ?_
  intro p e s m args below meth c s₁ B hml hv
  obtain ⟨rfl, hsz, hP, hK, hD0, hN⟩ := hv
  have hx := B.exec
  have hb := B.bytes
  have hr := B.returns
  have hts := htsA (atoms_spec (ws := wsK1_leadingInto) B.pre)
  have hown : s.vm.findClass RK1 = some m.cls := findClass_of_methodNamed B.named
  have hlocks := B.notSynchronized
  subst hsz
  have hD := hD0.self (sz := s.heap.size)
  generalize hAe : va_A (wT ta ta1 ta2 ta3 cI cZ cB cC tso tob tme twi) s.heap.size = A at hD ⊢
  have hA : ∀ q : Nat, s.heap.size ≤ q → A q := fun q h => by rw [← hAe]; exact Or.inr h
  refine kstart (A := A) hP (fun H hP hS => ?_)
  have hl := lv_entry ([.ref ta, .int v1]) (n := 4) (Nat.le_of_ble_eq_true rfl)
  rw [lg_entry_eq]
  generalize (lg_sl ([.ref ta, .int v1]) ++ List.replicate (4 - (lg_sl ([.ref ta, .int v1])).length) Slot.unset).toArray = ls at hl ⊢
  have hl : lv_has ls 4 [(0, .ref ta), (1, .int v1)] := hl
  unfold mK1_leadingInto at hm
  refine lv_iconst (v := 0) hx hb dK1_leadingInto_0 (by decide) ?_
  refine lv_istore_n (lv' := [(2, .int 0), (0, .ref ta), (1, .int v1)]) hx hb dK1_leadingInto_1 rfl hl (by decide) rfl (fun ls hl => ?_)
  refine lv_iconst (v := 0) hx hb dK1_leadingInto_2 (by decide) ?_
  refine lv_istore_n (lv' := [(3, .int 0), (2, .int 0), (0, .ref ta), (1, .int v1)]) hx hb dK1_leadingInto_3 rfl hl (by decide) rfl (fun ls hl => ?_)
  have lx4 : ∀ (i2x4 : Int32) (H : Heap) (locs : List Loc) (ls : Array Slot), mK1_leadingInto_A4 i2x4 = some r0 → va_P D vwCl (wT ta ta1 ta2 ta3 cI cZ cB cC tso tob tme twi) H → va_D A (wT ta ta1 ta2 ta3 cI cZ cB cC tso tob tme twi) → va_S A s.heap H locs → lv_has ls 4 [(2, .int i2x4)] → W p l e (headSpec wsK1_leadingInto rmK1_leadingInto).room s m ([.ref ta, .int v1] : List Value).toArray below meth c H locs 0 0 (MQ below (QI D A r0 (wT ta ta1 ta2 ta3 cI cZ cB cC tso tob tme twi)) ([.ref ta, .int v1] : List Value).toArray s 0 0 A) (F0 m 33 ls []) := by
    intro i2x4 H locs ls hm hP hD hS hl
    unfold mK1_leadingInto_A4 at hm
    refine lv_iload_n hx hb dK1_leadingInto_33 rfl (lv_at hl 0 rfl) ?_
    replace hm := Option.some.inj hm
    subst hm
    exact k_reti hx hb hr hlocks hP hD hS dK1_leadingInto_34
  have lp4 : ∀ (n4 : Nat) (i2l4 : Int32) (i3l4 : Int32) (H : Heap) (locs : List Loc) (ls : Array Slot), mK1_leadingInto_L4 tob v1 (mK1_leadingInto_A4) n4 i2l4 i3l4 = some r0 → va_P D vwCl (wT ta ta1 ta2 ta3 cI cZ cB cC tso tob tme twi) H → va_D A (wT ta ta1 ta2 ta3 cI cZ cB cC tso tob tme twi) → va_S A s.heap H locs → lv_has ls 4 [(3, .int i3l4), (2, .int i2l4), (0, .ref ta), (1, .int v1)] → W p l e (headSpec wsK1_leadingInto rmK1_leadingInto).room s m ([.ref ta, .int v1] : List Value).toArray below meth c H locs 0 0 (MQ below (QI D A r0 (wT ta ta1 ta2 ta3 cI cZ cB cC tso tob tme twi)) ([.ref ta, .int v1] : List Value).toArray s 0 0 A) (F0 m 4 ls []) := by
    intro n4
    induction n4 with
    | zero => intro i2l4 i3l4 H locs ls hm; exact nomatch (show none = _ from hm)
    | succ n4 ih4 =>
      intro i2l4 i3l4 H locs ls hm hP hD hS hl
      replace hm : mK1_leadingInto_B4 tob v1 (mK1_leadingInto_A4) (mK1_leadingInto_L4 tob v1 (mK1_leadingInto_A4) n4) i2l4 i3l4 = some r0 := hm
      unfold mK1_leadingInto_B4 at hm
      refine lv_iload_n hx hb dK1_leadingInto_4 rfl (lv_at hl 0 rfl) ?_
      refine lv_bipush (v := 12) hx hb dK1_leadingInto_5 (by decide) ?_
      refine lv_icmp_ge (tgt := 33) hx hb dK1_leadingInto_7 (by decide) (fun hc => ?_) (fun hc => ?_)
      · replace hm := ift hm hc
        exact lx4 i2l4 _ _ _ hm hP hD hS (lv_sub hl [1] rfl)
      · replace hm := iff_ hm hc
        refine lv_aload_n hx hb dK1_leadingInto_10 rfl (lv_at hl 2 rfl) ?_
        refine lv_iload_n hx hb dK1_leadingInto_11 rfl (lv_at hl 0 rfl) ?_
        refine lv_iconst (v := 1) hx hb dK1_leadingInto_12 (by decide) ?_
        obtain ⟨x1, ec2, hm⟩ := bd1_s hm
        have hPc := hP.sub (ws' := (wT ta ta1 ta2 ta3 cI cZ cB cC tso tob tme twi)) [0, 1, 2, 3] rfl
        have hDc := hD.sub (ws' := (wT ta ta1 ta2 ta3 cI cZ cB cC tso tob tme twi)) [0, 1, 2, 3] (by decide) rfl
        refine k_calli (wr := []) (w1 := (wT ta ta1 ta2 ta3 cI cZ cB cC tso tob tme twi)) (ws' := (wT ta ta1 ta2 ta3 cI cZ cB cC tso tob tme twi)) (va_runV (As := [.int i3l4, .int 1]) (rest := []) ⟨hx, hb, hml, hown, hts⟩ (kK1_objectsOf l D cI cZ cB cC H.size ta ta1 ta2 ta3 tso tob tme twi i3l4 1 x1 ec2) (cwV 2 hts (gdV wdt1_195 wdt1_196 wdt1_197 wdt1_2 gkK1_objectsOf) rfl rfl rfl (by decide +kernel) ⟨Nat.le_of_ble_eq_true rfl, Nat.le_of_ble_eq_true rfl⟩) ⟨Pr_blind, va_recv hK hPc (ci := 1) (q0 := 0) rfl rfl, fun U hU hW => ⟨rfl, Pr_at hK hN hPc hDc hU hW⟩⟩ rfl rfl hl.1 rfl (lv_room (Nat.le_of_ble_eq_true rfl)) dK1_leadingInto_13 ⟨Nat.le_of_ble_eq_true rfl, Nat.le_of_ble_eq_true rfl⟩) hP hD hS hA [0, 1, 2, 3] [] [0, 1, 2, 3] rfl rfl (by decide) (by decide) (by decide) rfl (fun H locs hP hD hS => ?_)
        refine lv_iload_n hx hb dK1_leadingInto_16 rfl (lv_at hl 3 rfl) ?_
        refine lv_iand hx hb dK1_leadingInto_17 ?_
        refine lv_if_eq (tgt := 27) hx hb dK1_leadingInto_18 (by decide) (fun hc => ?_) (fun hc => ?_)
        · replace hm := ift hm hc
          obtain ⟨x3, ex3, hm⟩ := bd1_s hm
          refine lv_iinc (v := x3) (lv' := [(3, .int x3), (2, .int i2l4), (0, .ref ta), (1, .int v1)]) hx hb dK1_leadingInto_27 hl (k := 0) rfl (by rw [← Option.some.inj ex3]; rfl) (by decide) rfl (fun ls hl => ?_)
          refine lv_goto (tgt := 4) hx hb dK1_leadingInto_30 (by decide) ?_
          exact ih4 i2l4 x3 _ _ _ hm hP hD hS (lv_sub hl [0, 1, 2, 3] rfl)
        · replace hm := iff_ hm hc
          refine lv_iload_n hx hb dK1_leadingInto_21 rfl (lv_at hl 1 rfl) ?_
          refine lv_iconst (v := 1) hx hb dK1_leadingInto_22 (by decide) ?_
          refine lv_iload_n hx hb dK1_leadingInto_23 rfl (lv_at hl 0 rfl) ?_
          refine lv_ishl hx hb dK1_leadingInto_24 ?_
          refine lv_ior hx hb dK1_leadingInto_25 ?_
          obtain ⟨x4, ex4, hm⟩ := bd1_s hm
          refine topi (Option.some.inj ex4) ?_
          refine lv_istore_n (lv' := [(2, .int x4), (3, .int i3l4), (0, .ref ta), (1, .int v1)]) hx hb dK1_leadingInto_26 rfl hl (by decide) rfl (fun ls hl => ?_)
          obtain ⟨x5, ex5, hm⟩ := bd1_s hm
          refine lv_iinc (v := x5) (lv' := [(3, .int x5), (2, .int x4), (0, .ref ta), (1, .int v1)]) hx hb dK1_leadingInto_27 hl (k := 1) rfl (by rw [← Option.some.inj ex5]; rfl) (by decide) rfl (fun ls hl => ?_)
          refine lv_goto (tgt := 4) hx hb dK1_leadingInto_30 (by decide) ?_
          exact ih4 x4 x5 _ _ _ hm hP hD hS (lv_sub hl [0, 1, 2, 3] rfl)
  exact lp4 5000 0 0 _ _ _ hm hP hD hS (lv_sub hl [0, 1, 2, 3] rfl)
def mK1_fewestBelows_A15 (twix15 : Nat → Int32) : Option (Int32 × (Nat → Int32)) :=
  some ((-1), twix15)
def mK1_fewestBelows_B15 (tob : Nat → Int32) (x1 : Int32) (kx15 : (Nat → Int32) → (Option (Int32 × (Nat → Int32)))) (rc15 : Int32 → Int32 → (Nat → Int32) → (Option (Int32 × (Nat → Int32)))) (i4l15 : Int32) (i5l15 : Int32) (twil15 : Nat → Int32) : Option (Int32 × (Nat → Int32)) :=
  if 12 ≤ i5l15 then
  (kx15 twil15)
  else
  (bd1 (wrt twil15 12 i5l15 i4l15) fun x4 => if (x1 &&& i4l15) = 0 then
    (bd1 (mK1_leadingInto tob i4l15) fun x5 => bd1 (some (i4l15 ||| x5)) fun x7 => bd1 (some (i5l15 + 1)) fun x8 => rc15 x7 x8 x4)
    else
    (some (i5l15, x4)))
def mK1_fewestBelows_L15 (tob : Nat → Int32) (x1 : Int32) (kx15 : (Nat → Int32) → (Option (Int32 × (Nat → Int32)))) : Nat → Int32 → Int32 → (Nat → Int32) → (Option (Int32 × (Nat → Int32)))
  | 0, _, _, _ => none
  | n + 1, i4l15, i5l15, twil15 => mK1_fewestBelows_B15 tob x1 kx15 (mK1_fewestBelows_L15 tob x1 kx15 n) i4l15 i5l15 twil15
def mK1_fewestBelows (tob : Nat → Int32) (twi : Nat → Int32) (v1 : Int32) (v2 : Int32) : Option (Int32 × (Nat → Int32)) :=
  bd1 (mK1_objectsOf tob v1 0) fun x1 => bd1 (some (1 <<< (v2 &&& 31))) fun x3 => mK1_fewestBelows_L15 tob x1 (mK1_fewestBelows_A15) 5000 x3 0 twi
abbrev rmK1_fewestBelows : Room := { frames := 2, cells := 0, slots := 0, locals := 45 }
set_option maxHeartbeats 4000000 in
set_option maxRecDepth 100000 in
theorem kK1_fewestBelows (l : Launch) (D : va_G) (cI cZ cB cC : ClassId) (sz : Nat) (ta : Nat) (ta1 : Nat) (ta2 : Nat) (ta3 : Nat) (tso : Int32) (tob : Nat → Int32) (tme : Nat → Int32) (twi : Nat → Int32) (v1 : Int32) (v2 : Int32) (r0 : Int32) (twi_r : Nat → Int32) (hm : mK1_fewestBelows tob twi v1 v2 = some (r0, twi_r)) : Met l yK1_fewestBelows wsK1_fewestBelows rmK1_fewestBelows (va_Pc [.ref ta, .int v1, .int v2] (Pr D (tyL cI cZ cB cC) sz (wT ta ta1 ta2 ta3 cI cZ cB cC tso tob tme twi))) (QI D (va_A (wT ta ta1 ta2 ta3 cI cZ cB cC tso tob tme twi) sz) r0 (wT ta ta1 ta2 ta3 cI cZ cB cC tso tob tme twi_r)) 0 0 (va_A (wT ta ta1 ta2 ta3 cI cZ cB cC tso tob tme twi) sz) := by
  refine Met.ofW (cc := cK1_fewestBelows) (maxL := 6) (ret := (some .int)) (by decide) rfl ?_
  intro p e s m args below meth c s₁ B hml hv
  obtain ⟨rfl, hsz, hP, hK, hD0, hN⟩ := hv
  have hx := B.exec
  have hb := B.bytes
  have hr := B.returns
  have hts := htsA (atoms_spec (ws := wsK1_fewestBelows) B.pre)
  have hown : s.vm.findClass RK1 = some m.cls := findClass_of_methodNamed B.named
  have hlocks := B.notSynchronized
  subst hsz
  have hD := hD0.self (sz := s.heap.size)
  generalize hAe : va_A (wT ta ta1 ta2 ta3 cI cZ cB cC tso tob tme twi) s.heap.size = A at hD ⊢
  have hA : ∀ q : Nat, s.heap.size ≤ q → A q := fun q h => by rw [← hAe]; exact Or.inr h
  refine kstart (A := A) hP (fun H hP hS => ?_)
  have hl := lv_entry ([.ref ta, .int v1, .int v2]) (n := 6) (Nat.le_of_ble_eq_true rfl)
  rw [lg_entry_eq]
  generalize (lg_sl ([.ref ta, .int v1, .int v2]) ++ List.replicate (6 - (lg_sl ([.ref ta, .int v1, .int v2])).length) Slot.unset).toArray = ls at hl ⊢
  have hl : lv_has ls 6 [(0, .ref ta), (1, .int v1), (2, .int v2)] := hl
  unfold mK1_fewestBelows at hm
  refine lv_aload_n hx hb dK1_fewestBelows_0 rfl (lv_at hl 0 rfl) ?_
  refine lv_iload_n hx hb dK1_fewestBelows_1 rfl (lv_at hl 1 rfl) ?_
  refine lv_iconst (v := 0) hx hb dK1_fewestBelows_2 (by decide) ?_
  obtain ⟨x1, ec2, hm⟩ := bd1_s hm
  have hPc := hP.sub (ws' := (wT ta ta1 ta2 ta3 cI cZ cB cC tso tob tme twi)) [0, 1, 2, 3] rfl
  have hDc := hD.sub (ws' := (wT ta ta1 ta2 ta3 cI cZ cB cC tso tob tme twi)) [0, 1, 2, 3] (by decide) rfl
  refine k_calli (wr := []) (w1 := (wT ta ta1 ta2 ta3 cI cZ cB cC tso tob tme twi)) (ws' := (wT ta ta1 ta2 ta3 cI cZ cB cC tso tob tme twi)) (va_runV (As := [.int v1, .int 0]) (rest := []) ⟨hx, hb, hml, hown, hts⟩ (kK1_objectsOf l D cI cZ cB cC H.size ta ta1 ta2 ta3 tso tob tme twi v1 0 x1 ec2) (cwV 2 hts (gdV wdt1_195 wdt1_196 wdt1_197 wdt1_2 gkK1_objectsOf) rfl rfl rfl (by decide +kernel) ⟨Nat.le_of_ble_eq_true rfl, Nat.le_of_ble_eq_true rfl⟩) ⟨Pr_blind, va_recv hK hPc (ci := 1) (q0 := 0) rfl rfl, fun U hU hW => ⟨rfl, Pr_at hK hN hPc hDc hU hW⟩⟩ rfl rfl hl.1 rfl (lv_room (Nat.le_of_ble_eq_true rfl)) dK1_fewestBelows_3 ⟨Nat.le_of_ble_eq_true rfl, Nat.le_of_ble_eq_true rfl⟩) hP hD hS hA [0, 1, 2, 3] [] [0, 1, 2, 3] rfl rfl (by decide) (by decide) (by decide) rfl (fun H locs hP hD hS => ?_)
  refine lv_istore_n (lv' := [(3, .int x1), (0, .ref ta), (1, .int v1), (2, .int v2)]) hx hb dK1_fewestBelows_6 rfl hl (by decide) rfl (fun ls hl => ?_)
  refine lv_iconst (v := 1) hx hb dK1_fewestBelows_7 (by decide) ?_
  refine lv_iload_n hx hb dK1_fewestBelows_8 rfl (lv_at hl 3 rfl) ?_
  refine lv_ishl hx hb dK1_fewestBelows_9 ?_
  obtain ⟨x3, ex3, hm⟩ := bd1_s hm
  refine topi (Option.some.inj ex3) ?_
  refine lv_istore (lv' := [(4, .int x3), (3, .int x1), (0, .ref ta), (1, .int v1), (2, .int v2)]) hx hb dK1_fewestBelows_10 hl (by decide) rfl (fun ls hl => ?_)
  refine lv_iconst (v := 0) hx hb dK1_fewestBelows_12 (by decide) ?_
  refine lv_istore (lv' := [(5, .int 0), (4, .int x3), (3, .int x1), (0, .ref ta), (1, .int v1), (2, .int v2)]) hx hb dK1_fewestBelows_13 hl (by decide) rfl (fun ls hl => ?_)
  have lx15 : ∀ (twix15 : Nat → Int32) (H : Heap) (locs : List Loc) (ls : Array Slot), mK1_fewestBelows_A15 twix15 = some (r0, twi_r) → va_P D vwCl (wT ta ta1 ta2 ta3 cI cZ cB cC tso tob tme twix15) H → va_D A (wT ta ta1 ta2 ta3 cI cZ cB cC tso tob tme twix15) → va_S A s.heap H locs → lv_has ls 6 [] → W p l e (headSpec wsK1_fewestBelows rmK1_fewestBelows).room s m ([.ref ta, .int v1, .int v2] : List Value).toArray below meth c H locs 0 0 (MQ below (QI D A r0 (wT ta ta1 ta2 ta3 cI cZ cB cC tso tob tme twi_r)) ([.ref ta, .int v1, .int v2] : List Value).toArray s 0 0 A) (F0 m 58 ls []) := by
    intro twix15 H locs ls hm hP hD hS hl
    unfold mK1_fewestBelows_A15 at hm
    refine lv_iconst (v := (-1)) hx hb dK1_fewestBelows_58 (by decide) ?_
    replace hm := Option.some.inj hm
    simp only [Prod.mk.injEq] at hm
    obtain ⟨rfl, rfl⟩ := hm
    exact k_reti hx hb hr hlocks hP hD hS dK1_fewestBelows_59
  have lp15 : ∀ (n15 : Nat) (i4l15 : Int32) (i5l15 : Int32) (twil15 : Nat → Int32) (H : Heap) (locs : List Loc) (ls : Array Slot), mK1_fewestBelows_L15 tob x1 (mK1_fewestBelows_A15) n15 i4l15 i5l15 twil15 = some (r0, twi_r) → va_P D vwCl (wT ta ta1 ta2 ta3 cI cZ cB cC tso tob tme twil15) H → va_D A (wT ta ta1 ta2 ta3 cI cZ cB cC tso tob tme twil15) → va_S A s.heap H locs → lv_has ls 6 [(5, .int i5l15), (4, .int i4l15), (3, .int x1), (0, .ref ta)] → W p l e (headSpec wsK1_fewestBelows rmK1_fewestBelows).room s m ([.ref ta, .int v1, .int v2] : List Value).toArray below meth c H locs 0 0 (MQ below (QI D A r0 (wT ta ta1 ta2 ta3 cI cZ cB cC tso tob tme twi_r)) ([.ref ta, .int v1, .int v2] : List Value).toArray s 0 0 A) (F0 m 15 ls []) := by
    intro n15
    induction n15 with
    | zero => intro i4l15 i5l15 twil15 H locs ls hm; exact nomatch (show none = _ from hm)
    | succ n15 ih15 =>
      intro i4l15 i5l15 twil15 H locs ls hm hP hD hS hl
      replace hm : mK1_fewestBelows_B15 tob x1 (mK1_fewestBelows_A15) (mK1_fewestBelows_L15 tob x1 (mK1_fewestBelows_A15) n15) i4l15 i5l15 twil15 = some (r0, twi_r) := hm
      unfold mK1_fewestBelows_B15 at hm
      refine lv_iload hx hb dK1_fewestBelows_15 (lv_at hl 0 rfl) ?_
      refine lv_bipush (v := 12) hx hb dK1_fewestBelows_17 (by decide) ?_
      refine lv_icmp_ge (tgt := 58) hx hb dK1_fewestBelows_19 (by decide) (fun hc => ?_) (fun hc => ?_)
      · replace hm := ift hm hc
        exact lx15 twil15 _ _ _ hm hP hD hS (lv_sub hl [] rfl)
      · replace hm := iff_ hm hc
        refine lv_aload_n hx hb dK1_fewestBelows_22 rfl (lv_at hl 3 rfl) ?_
        refine va_get (D := D) (ci := 1) (v := .ref ta3) (C := RK1) (T := TK1) (N := 4) hx hb hts inK1 hown hK hP 0 rfl rfl 2 (by decide) (hts _ wdt1_34) (fun _ h9 => h9) rfl dK1_fewestBelows_23 ?_
        refine lv_iload hx hb dK1_fewestBelows_26 (lv_at hl 0 rfl) ?_
        refine lv_iload hx hb dK1_fewestBelows_28 (lv_at hl 1 rfl) ?_
        obtain ⟨x4, ex4, hm⟩ := bd1_s hm
        obtain ⟨hix4, ex4⟩ := wrt_s ex4
        refine va_iast hx hb hK hP hD hS 3 0 rfl rfl hix4 dK1_fewestBelows_30 (fun H locs hP hD hS => ?_)
        rw [ex4] at hP hD
        have hP : va_P D vwCl (wT ta ta1 ta2 ta3 cI cZ cB cC tso tob tme x4) H := hP
        have hD : va_D A (wT ta ta1 ta2 ta3 cI cZ cB cC tso tob tme x4) := hD
        refine lv_iload_n hx hb dK1_fewestBelows_31 rfl (lv_at hl 2 rfl) ?_
        refine lv_iload hx hb dK1_fewestBelows_32 (lv_at hl 1 rfl) ?_
        refine lv_iand hx hb dK1_fewestBelows_34 ?_
        refine lv_if_eq (tgt := 41) hx hb dK1_fewestBelows_35 (by decide) (fun hc => ?_) (fun hc => ?_)
        · replace hm := ift hm hc
          refine lv_iload hx hb dK1_fewestBelows_41 (lv_at hl 1 rfl) ?_
          refine lv_aload_n hx hb dK1_fewestBelows_43 rfl (lv_at hl 3 rfl) ?_
          refine lv_iload hx hb dK1_fewestBelows_44 (lv_at hl 1 rfl) ?_
          obtain ⟨x5, ec6, hm⟩ := bd1_s hm
          have hPc := hP.sub (ws' := (wT ta ta1 ta2 ta3 cI cZ cB cC tso tob tme x4)) [0, 1, 2, 3] rfl
          have hDc := hD.sub (ws' := (wT ta ta1 ta2 ta3 cI cZ cB cC tso tob tme x4)) [0, 1, 2, 3] (by decide) rfl
          refine k_calli (wr := []) (w1 := (wT ta ta1 ta2 ta3 cI cZ cB cC tso tob tme x4)) (ws' := (wT ta ta1 ta2 ta3 cI cZ cB cC tso tob tme x4)) (va_runV (As := [.int i4l15]) (rest := [.int i4l15]) ⟨hx, hb, hml, hown, hts⟩ (kK1_leadingInto l D cI cZ cB cC H.size ta ta1 ta2 ta3 tso tob tme x4 i4l15 x5 ec6) (cwV 1 hts (gdV wdt2_62 wdt2_64 wds1_5 wdt1_2 gkK1_leadingInto) rfl rfl rfl (by decide +kernel) ⟨Nat.le_of_ble_eq_true rfl, Nat.le_of_ble_eq_true rfl⟩) ⟨Pr_blind, va_recv hK hPc (ci := 1) (q0 := 0) rfl rfl, fun U hU hW => ⟨rfl, Pr_at hK hN hPc hDc hU hW⟩⟩ rfl rfl hl.1 rfl (lv_room (Nat.le_of_ble_eq_true rfl)) dK1_fewestBelows_46 ⟨Nat.le_of_ble_eq_true rfl, Nat.le_of_ble_eq_true rfl⟩) hP hD hS hA [0, 1, 2, 3] [] [0, 1, 2, 3] rfl rfl (by decide) (by decide) (by decide) rfl (fun H locs hP hD hS => ?_)
          refine lv_ior hx hb dK1_fewestBelows_49 ?_
          obtain ⟨x7, ex7, hm⟩ := bd1_s hm
          refine topi (Option.some.inj ex7) ?_
          refine lv_istore (lv' := [(4, .int x7), (5, .int i5l15), (3, .int x1), (0, .ref ta)]) hx hb dK1_fewestBelows_50 hl (by decide) rfl (fun ls hl => ?_)
          obtain ⟨x8, ex8, hm⟩ := bd1_s hm
          refine lv_iinc (v := x8) (lv' := [(5, .int x8), (4, .int x7), (3, .int x1), (0, .ref ta)]) hx hb dK1_fewestBelows_52 hl (k := 1) rfl (by rw [← Option.some.inj ex8]; rfl) (by decide) rfl (fun ls hl => ?_)
          refine lv_goto (tgt := 15) hx hb dK1_fewestBelows_55 (by decide) ?_
          exact ih15 x7 x8 x4 _ _ _ hm hP hD hS (lv_sub hl [0, 1, 2, 3] rfl)
        · replace hm := iff_ hm hc
          refine lv_iload hx hb dK1_fewestBelows_38 (lv_at hl 0 rfl) ?_
          replace hm := Option.some.inj hm
          simp only [Prod.mk.injEq] at hm
          obtain ⟨rfl, rfl⟩ := hm
          exact k_reti hx hb hr hlocks hP hD hS dK1_fewestBelows_40
  exact lp15 5000 x3 0 twi _ _ _ hm hP hD hS (lv_sub hl [0, 1, 2, 3] rfl)
def mK1_nthOfReason_A55 (x2 : Nat → Int32) (i5x55 : Int32) (i6x55 : Int32) (i7x55 : Int32) : Option (Int32 × (Nat → Int32)) :=
  bd1 (mK0_codeOf i5x55 i6x55 i7x55) fun x9 => some (x9, x2)
def mK1_nthOfReason_B55 (tob : Nat → Int32) (v3 : Int32) (x1 : Int32) (x2 : Nat → Int32) (kx55 : Int32 → Int32 → Int32 → (Option (Int32 × (Nat → Int32)))) (rc55 : Int32 → Int32 → Int32 → Int32 → (Option (Int32 × (Nat → Int32)))) (i5l55 : Int32) (i6l55 : Int32) (i7l55 : Int32) (i8l55 : Int32) : Option (Int32 × (Nat → Int32)) :=
  if v3 < i8l55 then
  (kx55 i5l55 i6l55 i7l55)
  else
  (bd1 (mK1_objectsOf tob i7l55 1) fun x11 => bd1 (rd x2 12 (x1 - i8l55)) fun x13 => bd1 (mK1_least (x11 &&& x13)) fun x14 => bd1 (some (i8l55 + 1)) fun x16 => rc55 i7l55 1 x14 x16)
def mK1_nthOfReason_L55 (tob : Nat → Int32) (v3 : Int32) (x1 : Int32) (x2 : Nat → Int32) (kx55 : Int32 → Int32 → Int32 → (Option (Int32 × (Nat → Int32)))) : Nat → Int32 → Int32 → Int32 → Int32 → (Option (Int32 × (Nat → Int32)))
  | 0, _, _, _, _ => none
  | n + 1, i5l55, i6l55, i7l55, i8l55 => mK1_nthOfReason_B55 tob v3 x1 x2 kx55 (mK1_nthOfReason_L55 tob v3 x1 x2 kx55 n) i5l55 i6l55 i7l55 i8l55
def mK1_nthOfReason (tob : Nat → Int32) (twi : Nat → Int32) (v1 : Int32) (v2 : Int32) (v3 : Int32) : Option (Int32 × (Nat → Int32)) :=
  bd2 (mK1_fewestBelows tob twi v1 v2) fun x1 x2 => if x1 = ((-1)) then
  (some ((-2), x2))
  else
  (if v3 < 0 then
    (some ((-2), x2))
    else
    (if v3 ≤ x1 then
      (bd1 (mK1_objectsOf tob v1 0) fun x4 => bd1 (rd x2 12 x1) fun x6 => bd1 (mK1_least (x4 &&& x6)) fun x7 => mK1_nthOfReason_L55 tob v3 x1 x2 (mK1_nthOfReason_A55 x2) 5000 v1 0 x7 1)
      else
      (some ((-2), x2))))
abbrev rmK1_nthOfReason : Room := { frames := 3, cells := 0, slots := 0, locals := 70 }
set_option maxHeartbeats 4000000 in
set_option maxRecDepth 100000 in
theorem kK1_nthOfReason (l : Launch) (D : va_G) (cI cZ cB cC : ClassId) (sz : Nat) (ta : Nat) (ta1 : Nat) (ta2 : Nat) (ta3 : Nat) (tso : Int32) (tob : Nat → Int32) (tme : Nat → Int32) (twi : Nat → Int32) (v1 : Int32) (v2 : Int32) (v3 : Int32) (r0 : Int32) (twi_r : Nat → Int32) (hm : mK1_nthOfReason tob twi v1 v2 v3 = some (r0, twi_r)) : Met l yK1_nthOfReason wsK1_nthOfReason rmK1_nthOfReason (va_Pc [.ref ta, .int v1, .int v2, .int v3] (Pr D (tyL cI cZ cB cC) sz (wT ta ta1 ta2 ta3 cI cZ cB cC tso tob tme twi))) (QI D (va_A (wT ta ta1 ta2 ta3 cI cZ cB cC tso tob tme twi) sz) r0 (wT ta ta1 ta2 ta3 cI cZ cB cC tso tob tme twi_r)) 0 0 (va_A (wT ta ta1 ta2 ta3 cI cZ cB cC tso tob tme twi) sz) := by
  refine Met.ofW (cc := cK1_nthOfReason) (maxL := 9) (ret := (some .int)) (by decide) rfl ?_
  intro p e s m args below meth c s₁ B hml hv
  obtain ⟨rfl, hsz, hP, hK, hD0, hN⟩ := hv
  have hx := B.exec
  have hb := B.bytes
  have hr := B.returns
  have hts := htsA (atoms_spec (ws := wsK1_nthOfReason) B.pre)
  have hown : s.vm.findClass RK1 = some m.cls := findClass_of_methodNamed B.named
  have hlocks := B.notSynchronized
  subst hsz
  have hD := hD0.self (sz := s.heap.size)
  generalize hAe : va_A (wT ta ta1 ta2 ta3 cI cZ cB cC tso tob tme twi) s.heap.size = A at hD ⊢
  have hA : ∀ q : Nat, s.heap.size ≤ q → A q := fun q h => by rw [← hAe]; exact Or.inr h
  refine kstart (A := A) hP (fun H hP hS => ?_)
  have hl := lv_entry ([.ref ta, .int v1, .int v2, .int v3]) (n := 9) (Nat.le_of_ble_eq_true rfl)
  rw [lg_entry_eq]
  generalize (lg_sl ([.ref ta, .int v1, .int v2, .int v3]) ++ List.replicate (9 - (lg_sl ([.ref ta, .int v1, .int v2, .int v3])).length) Slot.unset).toArray = ls at hl ⊢
  have hl : lv_has ls 9 [(0, .ref ta), (1, .int v1), (2, .int v2), (3, .int v3)] := hl
  unfold mK1_nthOfReason at hm
  refine lv_aload_n hx hb dK1_nthOfReason_0 rfl (lv_at hl 0 rfl) ?_
  refine lv_iload_n hx hb dK1_nthOfReason_1 rfl (lv_at hl 1 rfl) ?_
  refine lv_iload_n hx hb dK1_nthOfReason_2 rfl (lv_at hl 2 rfl) ?_
  obtain ⟨x1, x2, ec3, hm⟩ := bd2_s hm
  have hPc := hP.sub (ws' := (wT ta ta1 ta2 ta3 cI cZ cB cC tso tob tme twi)) [0, 1, 2, 3] rfl
  have hDc := hD.sub (ws' := (wT ta ta1 ta2 ta3 cI cZ cB cC tso tob tme twi)) [0, 1, 2, 3] (by decide) rfl
  refine k_calli (wr := []) (w1 := (wT ta ta1 ta2 ta3 cI cZ cB cC tso tob tme x2)) (ws' := (wT ta ta1 ta2 ta3 cI cZ cB cC tso tob tme x2)) (va_runV (As := [.int v1, .int v2]) (rest := []) ⟨hx, hb, hml, hown, hts⟩ (kK1_fewestBelows l D cI cZ cB cC H.size ta ta1 ta2 ta3 tso tob tme twi v1 v2 x1 x2 ec3) (cwV 2 hts (gdV wdt2_58 wdt2_60 wds1_4 wdt1_2 gkK1_fewestBelows) rfl rfl rfl (by decide +kernel) ⟨Nat.le_of_ble_eq_true rfl, Nat.le_of_ble_eq_true rfl⟩) ⟨Pr_blind, va_recv hK hPc (ci := 1) (q0 := 0) rfl rfl, fun U hU hW => ⟨rfl, Pr_at hK hN hPc hDc hU hW⟩⟩ rfl rfl hl.1 rfl (lv_room (Nat.le_of_ble_eq_true rfl)) dK1_nthOfReason_3 ⟨Nat.le_of_ble_eq_true rfl, Nat.le_of_ble_eq_true rfl⟩) hP hD hS hA [0, 1, 2, 3] [] [0, 1, 2, 3] rfl rfl (by decide) (by decide) (by decide) rfl (fun H locs hP hD hS => ?_)
  refine lv_istore (lv' := [(4, .int x1), (0, .ref ta), (1, .int v1), (2, .int v2), (3, .int v3)]) hx hb dK1_nthOfReason_6 hl (by decide) rfl (fun ls hl => ?_)
  refine lv_iload hx hb dK1_nthOfReason_8 (lv_at hl 0 rfl) ?_
  refine lv_iconst (v := (-1)) hx hb dK1_nthOfReason_10 (by decide) ?_
  refine lv_icmp_eq (tgt := 24) hx hb dK1_nthOfReason_11 (by decide) (fun hc => ?_) (fun hc => ?_)
  · replace hm := ift hm hc
    refine lv_bipush (v := (-2)) hx hb dK1_nthOfReason_24 (by decide) ?_
    replace hm := Option.some.inj hm
    simp only [Prod.mk.injEq] at hm
    obtain ⟨rfl, rfl⟩ := hm
    exact k_reti hx hb hr hlocks hP hD hS dK1_nthOfReason_26
  · replace hm := iff_ hm hc
    refine lv_iload_n hx hb dK1_nthOfReason_14 rfl (lv_at hl 4 rfl) ?_
    refine lv_if_lt (tgt := 24) hx hb dK1_nthOfReason_15 (by decide) (fun hc => ?_) (fun hc => ?_)
    · replace hm := ift hm hc
      refine lv_bipush (v := (-2)) hx hb dK1_nthOfReason_24 (by decide) ?_
      replace hm := Option.some.inj hm
      simp only [Prod.mk.injEq] at hm
      obtain ⟨rfl, rfl⟩ := hm
      exact k_reti hx hb hr hlocks hP hD hS dK1_nthOfReason_26
    · replace hm := iff_ hm hc
      refine lv_iload_n hx hb dK1_nthOfReason_18 rfl (lv_at hl 4 rfl) ?_
      refine lv_iload hx hb dK1_nthOfReason_19 (lv_at hl 0 rfl) ?_
      refine lv_icmp_le (tgt := 27) hx hb dK1_nthOfReason_21 (by decide) (fun hc => ?_) (fun hc => ?_)
      · replace hm := ift hm hc
        refine lv_iload_n hx hb dK1_nthOfReason_27 rfl (lv_at hl 2 rfl) ?_
        refine lv_istore (lv' := [(5, .int v1), (4, .int x1), (0, .ref ta), (1, .int v1), (2, .int v2), (3, .int v3)]) hx hb dK1_nthOfReason_28 hl (by decide) rfl (fun ls hl => ?_)
        refine lv_iconst (v := 0) hx hb dK1_nthOfReason_30 (by decide) ?_
        refine lv_istore (lv' := [(6, .int 0), (5, .int v1), (4, .int x1), (0, .ref ta), (1, .int v1), (2, .int v2), (3, .int v3)]) hx hb dK1_nthOfReason_31 hl (by decide) rfl (fun ls hl => ?_)
        refine lv_aload_n hx hb dK1_nthOfReason_33 rfl (lv_at hl 3 rfl) ?_
        refine lv_iload_n hx hb dK1_nthOfReason_34 rfl (lv_at hl 4 rfl) ?_
        refine lv_iconst (v := 0) hx hb dK1_nthOfReason_35 (by decide) ?_
        obtain ⟨x4, ec5, hm⟩ := bd1_s hm
        have hPc := hP.sub (ws' := (wT ta ta1 ta2 ta3 cI cZ cB cC tso tob tme x2)) [0, 1, 2, 3] rfl
        have hDc := hD.sub (ws' := (wT ta ta1 ta2 ta3 cI cZ cB cC tso tob tme x2)) [0, 1, 2, 3] (by decide) rfl
        refine k_calli (wr := []) (w1 := (wT ta ta1 ta2 ta3 cI cZ cB cC tso tob tme x2)) (ws' := (wT ta ta1 ta2 ta3 cI cZ cB cC tso tob tme x2)) (va_runV (As := [.int v1, .int 0]) (rest := []) ⟨hx, hb, hml, hown, hts⟩ (kK1_objectsOf l D cI cZ cB cC H.size ta ta1 ta2 ta3 tso tob tme x2 v1 0 x4 ec5) (cwV 2 hts (gdV wdt1_195 wdt1_196 wdt1_197 wdt1_2 gkK1_objectsOf) rfl rfl rfl (by decide +kernel) ⟨Nat.le_of_ble_eq_true rfl, Nat.le_of_ble_eq_true rfl⟩) ⟨Pr_blind, va_recv hK hPc (ci := 1) (q0 := 0) rfl rfl, fun U hU hW => ⟨rfl, Pr_at hK hN hPc hDc hU hW⟩⟩ rfl rfl hl.1 rfl (lv_room (Nat.le_of_ble_eq_true rfl)) dK1_nthOfReason_36 ⟨Nat.le_of_ble_eq_true rfl, Nat.le_of_ble_eq_true rfl⟩) hP hD hS hA [0, 1, 2, 3] [] [0, 1, 2, 3] rfl rfl (by decide) (by decide) (by decide) rfl (fun H locs hP hD hS => ?_)
        refine lv_aload_n hx hb dK1_nthOfReason_39 rfl (lv_at hl 3 rfl) ?_
        refine va_get (D := D) (ci := 1) (v := .ref ta3) (C := RK1) (T := TK1) (N := 4) hx hb hts inK1 hown hK hP 0 rfl rfl 2 (by decide) (hts _ wdt1_34) (fun _ h9 => h9) rfl dK1_nthOfReason_40 ?_
        refine lv_iload hx hb dK1_nthOfReason_43 (lv_at hl 2 rfl) ?_
        obtain ⟨x6, ex6, hm⟩ := bd1_s hm
        obtain ⟨hix6, ex6⟩ := rd_s ex6
        refine va_iald hx hb hK hP 3 0 rfl rfl hix6 dK1_nthOfReason_45 ?_
        refine topi ex6 ?_
        refine lv_iand hx hb dK1_nthOfReason_46 ?_
        obtain ⟨x7, ec8, hm⟩ := bd1_s hm
        have hPc : va_P D vwCl [] H := va_P0
        have hDc : va_D A [] := va_D0
        refine k_calli0 (va_runS (As := [.int (x4 &&& x6)]) (rest := []) ⟨hx, hb, hml, hown, hts⟩ (kK1_least l D cI cZ cB cC H.size (x4 &&& x6) x7 ec8) (va_cwS 1 hts (gdS wdt1_220 wdt1_221 wdt1_2 gkK1_least) rfl rfl rfl (by decide +kernel) ⟨Nat.le_of_ble_eq_true rfl, Nat.le_of_ble_eq_true rfl⟩) ⟨Pr_blind, fun U hU hW => ⟨rfl, Pr_at hK hN hPc hDc hU hW⟩⟩ rfl rfl hl.1 rfl (lv_room (Nat.le_of_ble_eq_true rfl)) dK1_nthOfReason_47 ⟨Nat.le_of_ble_eq_true rfl, Nat.le_of_ble_eq_true rfl⟩) hP hD hS hA (fun H locs hP hD hS => ?_)
        refine lv_istore (lv' := [(7, .int x7), (6, .int 0), (5, .int v1), (4, .int x1), (0, .ref ta), (1, .int v1), (2, .int v2), (3, .int v3)]) hx hb dK1_nthOfReason_50 hl (by decide) rfl (fun ls hl => ?_)
        refine lv_iconst (v := 1) hx hb dK1_nthOfReason_52 (by decide) ?_
        refine lv_istore (lv' := [(8, .int 1), (7, .int x7), (6, .int 0), (5, .int v1), (4, .int x1), (0, .ref ta), (1, .int v1), (2, .int v2), (3, .int v3)]) hx hb dK1_nthOfReason_53 hl (by decide) rfl (fun ls hl => ?_)
        have lx55 : ∀ (i5x55 : Int32) (i6x55 : Int32) (i7x55 : Int32) (H : Heap) (locs : List Loc) (ls : Array Slot), mK1_nthOfReason_A55 x2 i5x55 i6x55 i7x55 = some (r0, twi_r) → va_P D vwCl (wT ta ta1 ta2 ta3 cI cZ cB cC tso tob tme x2) H → va_D A (wT ta ta1 ta2 ta3 cI cZ cB cC tso tob tme x2) → va_S A s.heap H locs → lv_has ls 9 [(5, .int i5x55), (6, .int i6x55), (7, .int i7x55)] → W p l e (headSpec wsK1_nthOfReason rmK1_nthOfReason).room s m ([.ref ta, .int v1, .int v2, .int v3] : List Value).toArray below meth c H locs 0 0 (MQ below (QI D A r0 (wT ta ta1 ta2 ta3 cI cZ cB cC tso tob tme twi_r)) ([.ref ta, .int v1, .int v2, .int v3] : List Value).toArray s 0 0 A) (F0 m 97 ls []) := by
          intro i5x55 i6x55 i7x55 H locs ls hm hP hD hS hl
          unfold mK1_nthOfReason_A55 at hm
          refine lv_iload hx hb dK1_nthOfReason_97 (lv_at hl 0 rfl) ?_
          refine lv_iload hx hb dK1_nthOfReason_99 (lv_at hl 1 rfl) ?_
          refine lv_iload hx hb dK1_nthOfReason_101 (lv_at hl 2 rfl) ?_
          obtain ⟨x9, ec10, hm⟩ := bd1_s hm
          have hPc : va_P D vwCl [] H := va_P0
          have hDc : va_D A [] := va_D0
          refine k_calli0 (va_runSN (As := [.int i5x55, .int i6x55, .int i7x55]) (rest := []) ⟨hx, hb, hml, hown, hts⟩ (kK0_codeOf l D cI cZ cB cC H.size i5x55 i6x55 i7x55 x9 ec10) ⟨va_cnB 3 hts gkK0_codeOf rfl rfl rfl (nwM hN 9 rfl) (hts _ wdt1_1) (by decide +kernel) ⟨Nat.le_of_ble_eq_true rfl, Nat.le_of_ble_eq_true rfl⟩, (hts _ wdt1_203), trivial⟩ ⟨Pr_blind, fun U hU hW => ⟨rfl, Pr_at hK hN hPc hDc hU hW⟩⟩ rfl rfl hl.1 rfl (lv_room (Nat.le_of_ble_eq_true rfl)) dK1_nthOfReason_103 ⟨Nat.le_of_ble_eq_true rfl, Nat.le_of_ble_eq_true rfl⟩) hP hD hS hA (fun H locs hP hD hS => ?_)
          replace hm := Option.some.inj hm
          simp only [Prod.mk.injEq] at hm
          obtain ⟨rfl, rfl⟩ := hm
          exact k_reti hx hb hr hlocks hP hD hS dK1_nthOfReason_106
        have lp55 : ∀ (n55 : Nat) (i5l55 : Int32) (i6l55 : Int32) (i7l55 : Int32) (i8l55 : Int32) (H : Heap) (locs : List Loc) (ls : Array Slot), mK1_nthOfReason_L55 tob v3 x1 x2 (mK1_nthOfReason_A55 x2) n55 i5l55 i6l55 i7l55 i8l55 = some (r0, twi_r) → va_P D vwCl (wT ta ta1 ta2 ta3 cI cZ cB cC tso tob tme x2) H → va_D A (wT ta ta1 ta2 ta3 cI cZ cB cC tso tob tme x2) → va_S A s.heap H locs → lv_has ls 9 [(8, .int i8l55), (7, .int i7l55), (6, .int i6l55), (5, .int i5l55), (4, .int x1), (0, .ref ta), (3, .int v3)] → W p l e (headSpec wsK1_nthOfReason rmK1_nthOfReason).room s m ([.ref ta, .int v1, .int v2, .int v3] : List Value).toArray below meth c H locs 0 0 (MQ below (QI D A r0 (wT ta ta1 ta2 ta3 cI cZ cB cC tso tob tme twi_r)) ([.ref ta, .int v1, .int v2, .int v3] : List Value).toArray s 0 0 A) (F0 m 55 ls []) := by
          intro n55
          induction n55 with
          | zero => intro i5l55 i6l55 i7l55 i8l55 H locs ls hm; exact nomatch (show none = _ from hm)
          | succ n55 ih55 =>
            intro i5l55 i6l55 i7l55 i8l55 H locs ls hm hP hD hS hl
            replace hm : mK1_nthOfReason_B55 tob v3 x1 x2 (mK1_nthOfReason_A55 x2) (mK1_nthOfReason_L55 tob v3 x1 x2 (mK1_nthOfReason_A55 x2) n55) i5l55 i6l55 i7l55 i8l55 = some (r0, twi_r) := hm
            unfold mK1_nthOfReason_B55 at hm
            refine lv_iload hx hb dK1_nthOfReason_55 (lv_at hl 0 rfl) ?_
            refine lv_iload_n hx hb dK1_nthOfReason_57 rfl (lv_at hl 6 rfl) ?_
            refine lv_icmp_gt (tgt := 97) hx hb dK1_nthOfReason_58 (by decide) (fun hc => ?_) (fun hc => ?_)
            · replace hm := ift hm hc
              exact lx55 i5l55 i6l55 i7l55 _ _ _ hm hP hD hS (lv_sub hl [3, 2, 1] rfl)
            · replace hm := iff_ hm hc
              refine lv_iload hx hb dK1_nthOfReason_61 (lv_at hl 1 rfl) ?_
              refine lv_istore (lv' := [(5, .int i7l55), (8, .int i8l55), (7, .int i7l55), (6, .int i6l55), (4, .int x1), (0, .ref ta), (3, .int v3)]) hx hb dK1_nthOfReason_63 hl (by decide) rfl (fun ls hl => ?_)
              refine lv_iconst (v := 1) hx hb dK1_nthOfReason_65 (by decide) ?_
              refine lv_istore (lv' := [(6, .int 1), (5, .int i7l55), (8, .int i8l55), (7, .int i7l55), (4, .int x1), (0, .ref ta), (3, .int v3)]) hx hb dK1_nthOfReason_66 hl (by decide) rfl (fun ls hl => ?_)
              refine lv_aload_n hx hb dK1_nthOfReason_68 rfl (lv_at hl 5 rfl) ?_
              refine lv_iload hx hb dK1_nthOfReason_69 (lv_at hl 1 rfl) ?_
              refine lv_iconst (v := 1) hx hb dK1_nthOfReason_71 (by decide) ?_
              obtain ⟨x11, ec12, hm⟩ := bd1_s hm
              have hPc := hP.sub (ws' := (wT ta ta1 ta2 ta3 cI cZ cB cC tso tob tme x2)) [0, 1, 2, 3] rfl
              have hDc := hD.sub (ws' := (wT ta ta1 ta2 ta3 cI cZ cB cC tso tob tme x2)) [0, 1, 2, 3] (by decide) rfl
              refine k_calli (wr := []) (w1 := (wT ta ta1 ta2 ta3 cI cZ cB cC tso tob tme x2)) (ws' := (wT ta ta1 ta2 ta3 cI cZ cB cC tso tob tme x2)) (va_runV (As := [.int i7l55, .int 1]) (rest := []) ⟨hx, hb, hml, hown, hts⟩ (kK1_objectsOf l D cI cZ cB cC H.size ta ta1 ta2 ta3 tso tob tme x2 i7l55 1 x11 ec12) (cwV 2 hts (gdV wdt1_195 wdt1_196 wdt1_197 wdt1_2 gkK1_objectsOf) rfl rfl rfl (by decide +kernel) ⟨Nat.le_of_ble_eq_true rfl, Nat.le_of_ble_eq_true rfl⟩) ⟨Pr_blind, va_recv hK hPc (ci := 1) (q0 := 0) rfl rfl, fun U hU hW => ⟨rfl, Pr_at hK hN hPc hDc hU hW⟩⟩ rfl rfl hl.1 rfl (lv_room (Nat.le_of_ble_eq_true rfl)) dK1_nthOfReason_72 ⟨Nat.le_of_ble_eq_true rfl, Nat.le_of_ble_eq_true rfl⟩) hP hD hS hA [0, 1, 2, 3] [] [0, 1, 2, 3] rfl rfl (by decide) (by decide) (by decide) rfl (fun H locs hP hD hS => ?_)
              refine lv_aload_n hx hb dK1_nthOfReason_75 rfl (lv_at hl 5 rfl) ?_
              refine va_get (D := D) (ci := 1) (v := .ref ta3) (C := RK1) (T := TK1) (N := 4) hx hb hts inK1 hown hK hP 0 rfl rfl 2 (by decide) (hts _ wdt1_34) (fun _ h9 => h9) rfl dK1_nthOfReason_76 ?_
              refine lv_iload hx hb dK1_nthOfReason_79 (lv_at hl 4 rfl) ?_
              refine lv_iload hx hb dK1_nthOfReason_81 (lv_at hl 2 rfl) ?_
              refine lv_isub hx hb dK1_nthOfReason_83 ?_
              obtain ⟨x13, ex13, hm⟩ := bd1_s hm
              obtain ⟨hix13, ex13⟩ := rd_s ex13
              refine va_iald hx hb hK hP 3 0 rfl rfl hix13 dK1_nthOfReason_84 ?_
              refine topi ex13 ?_
              refine lv_iand hx hb dK1_nthOfReason_85 ?_
              obtain ⟨x14, ec15, hm⟩ := bd1_s hm
              have hPc : va_P D vwCl [] H := va_P0
              have hDc : va_D A [] := va_D0
              refine k_calli0 (va_runS (As := [.int (x11 &&& x13)]) (rest := []) ⟨hx, hb, hml, hown, hts⟩ (kK1_least l D cI cZ cB cC H.size (x11 &&& x13) x14 ec15) (va_cwS 1 hts (gdS wdt1_220 wdt1_221 wdt1_2 gkK1_least) rfl rfl rfl (by decide +kernel) ⟨Nat.le_of_ble_eq_true rfl, Nat.le_of_ble_eq_true rfl⟩) ⟨Pr_blind, fun U hU hW => ⟨rfl, Pr_at hK hN hPc hDc hU hW⟩⟩ rfl rfl hl.1 rfl (lv_room (Nat.le_of_ble_eq_true rfl)) dK1_nthOfReason_86 ⟨Nat.le_of_ble_eq_true rfl, Nat.le_of_ble_eq_true rfl⟩) hP hD hS hA (fun H locs hP hD hS => ?_)
              refine lv_istore (lv' := [(7, .int x14), (6, .int 1), (5, .int i7l55), (8, .int i8l55), (4, .int x1), (0, .ref ta), (3, .int v3)]) hx hb dK1_nthOfReason_89 hl (by decide) rfl (fun ls hl => ?_)
              obtain ⟨x16, ex16, hm⟩ := bd1_s hm
              refine lv_iinc (v := x16) (lv' := [(8, .int x16), (7, .int x14), (6, .int 1), (5, .int i7l55), (4, .int x1), (0, .ref ta), (3, .int v3)]) hx hb dK1_nthOfReason_91 hl (k := 3) rfl (by rw [← Option.some.inj ex16]; rfl) (by decide) rfl (fun ls hl => ?_)
              refine lv_goto (tgt := 55) hx hb dK1_nthOfReason_94 (by decide) ?_
              exact ih55 i7l55 1 x14 x16 _ _ _ hm hP hD hS (lv_sub hl [0, 1, 2, 3, 4, 5, 6] rfl)
        exact lp55 5000 v1 0 x7 1 _ _ _ hm hP hD hS (lv_sub hl [0, 1, 2, 3, 4, 5, 8] rfl)
      · replace hm := iff_ hm hc
        refine lv_bipush (v := (-2)) hx hb dK1_nthOfReason_24 (by decide) ?_
        replace hm := Option.some.inj hm
        simp only [Prod.mk.injEq] at hm
        obtain ⟨rfl, rfl⟩ := hm
        exact k_reti hx hb hr hlocks hP hD hS dK1_nthOfReason_26
def mK0_reason (trob : Nat → Int32) (trwi : Nat → Int32) (v1 : Int32) (v2 : Int32) (v3 : Int32) : Option (Int32 × (Nat → Int32)) :=
  bd1 (mK0_isNode v1) fun x1 => if x1 = 0 then
  (some ((-1), trwi))
  else
  (bd1 (mK0_isNode v2) fun x3 => if x3 = 0 then
    (some ((-1), trwi))
    else
    (bd2 (mK1_nthOfReason trob trwi v1 v2 v3) fun x5 x6 => some (x5, x6)))
abbrev rmK0_reason : Room := { frames := 4, cells := 0, slots := 0, locals := 98 }
set_option maxHeartbeats 4000000 in
set_option maxRecDepth 100000 in
theorem kK0_reason (l : Launch) (D : va_G) (cI cZ cB cC : ClassId) (sz : Nat) (oa : Nat) (tra : Nat) (tra1 : Nat) (tra2 : Nat) (tra3 : Nat) (tia : Nat) (tia1 : Nat) (tia2 : Nat) (tia3 : Nat) (rua : Nat) (rua1 : Nat) (rua2 : Nat) (rua3 : Nat) (rua4 : Nat) (cha : Nat) (cha1 : Nat) (cha2 : Nat) (cha3 : Nat) (foa : Nat) (foa1 : Nat) (foa2 : Nat) (sba : Nat) (ocs : Int32) (oal : Int32) (olt : Int32) (ols : Int32) (trso : Int32) (trob : Nat → Int32) (trme : Nat → Int32) (trwi : Nat → Int32) (tiso : Int32) (tiob : Nat → Int32) (time : Nat → Int32) (tiwi : Nat → Int32) (run : Int32) (ruki : Nat → Int32) (ruta : Nat → Int32) (rupr : Nat → Int32) (runu : Nat → Int32) (chn : Int32) (chpu : Nat → Int32) (chco : Nat → Int32) (chwe : Nat → Int32) (fon : Int32) (fose : Nat → Int32) (fosu : Nat → Int32) (v1 : Int32) (v2 : Int32) (v3 : Int32) (r0 : Int32) (trwi_r : Nat → Int32) (hm : mK0_reason trob trwi v1 v2 v3 = some (r0, trwi_r)) : Met l yK0_reason wsK0_reason rmK0_reason (va_Pc [.ref oa, .int v1, .int v2, .int v3] (Pr D (tyL cI cZ cB cC) sz (wM oa tra tra1 tra2 tra3 tia tia1 tia2 tia3 rua rua1 rua2 rua3 rua4 cha cha1 cha2 cha3 foa foa1 foa2 sba cI cZ cB cC ocs oal olt ols trso trob trme trwi tiso tiob time tiwi run ruki ruta rupr runu chn chpu chco chwe fon fose fosu))) (QI D (va_A (wM oa tra tra1 tra2 tra3 tia tia1 tia2 tia3 rua rua1 rua2 rua3 rua4 cha cha1 cha2 cha3 foa foa1 foa2 sba cI cZ cB cC ocs oal olt ols trso trob trme trwi tiso tiob time tiwi run ruki ruta rupr runu chn chpu chco chwe fon fose fosu) sz) r0 (wM oa tra tra1 tra2 tra3 tia tia1 tia2 tia3 rua rua1 rua2 rua3 rua4 cha cha1 cha2 cha3 foa foa1 foa2 sba cI cZ cB cC ocs oal olt ols trso trob trme trwi_r tiso tiob time tiwi run ruki ruta rupr runu chn chpu chco chwe fon fose fosu)) 0 0 (va_A (wM oa tra tra1 tra2 tra3 tia tia1 tia2 tia3 rua rua1 rua2 rua3 rua4 cha cha1 cha2 cha3 foa foa1 foa2 sba cI cZ cB cC ocs oal olt ols trso trob trme trwi tiso tiob time tiwi run ruki ruta rupr runu chn chpu chco chwe fon fose fosu) sz) := by
  refine Met.ofW (cc := cK0_reason) (maxL := 4) (ret := (some .int)) (by decide) rfl ?_
  intro p e s m args below meth c s₁ B hml hv
  obtain ⟨rfl, hsz, hP, hK, hD0, hN⟩ := hv
  have hx := B.exec
  have hb := B.bytes
  have hr := B.returns
  have hts := htsA (atoms_spec (ws := wsK0_reason) B.pre)
  have hown : s.vm.findClass RK0 = some m.cls := findClass_of_methodNamed B.named
  have hlocks := B.notSynchronized
  subst hsz
  have hD := hD0.self (sz := s.heap.size)
  generalize hAe : va_A (wM oa tra tra1 tra2 tra3 tia tia1 tia2 tia3 rua rua1 rua2 rua3 rua4 cha cha1 cha2 cha3 foa foa1 foa2 sba cI cZ cB cC ocs oal olt ols trso trob trme trwi tiso tiob time tiwi run ruki ruta rupr runu chn chpu chco chwe fon fose fosu) s.heap.size = A at hD ⊢
  have hA : ∀ q : Nat, s.heap.size ≤ q → A q := fun q h => by rw [← hAe]; exact Or.inr h
  refine kstart (A := A) hP (fun H hP hS => ?_)
  have hl := lv_entry ([.ref oa, .int v1, .int v2, .int v3]) (n := 4) (Nat.le_of_ble_eq_true rfl)
  rw [lg_entry_eq]
  generalize (lg_sl ([.ref oa, .int v1, .int v2, .int v3]) ++ List.replicate (4 - (lg_sl ([.ref oa, .int v1, .int v2, .int v3])).length) Slot.unset).toArray = ls at hl ⊢
  have hl : lv_has ls 4 [(0, .ref oa), (1, .int v1), (2, .int v2), (3, .int v3)] := hl
  unfold mK0_reason at hm
  refine lv_iload_n hx hb dK0_reason_0 rfl (lv_at hl 1 rfl) ?_
  obtain ⟨x1, ec2, hm⟩ := bd1_s hm
  have hPc : va_P D vwCl [] H := va_P0
  have hDc : va_D A [] := va_D0
  refine k_calli0 (va_runS (As := [.int v1]) (rest := []) ⟨hx, hb, hml, hown, hts⟩ (kK0_isNode l D cI cZ cB cC H.size v1 x1 ec2) (va_cwS 1 hts (gdS wdt1_185 wdt1_186 wdt1_1 gkK0_isNode) rfl rfl rfl (by decide +kernel) ⟨Nat.le_of_ble_eq_true rfl, Nat.le_of_ble_eq_true rfl⟩) ⟨Pr_blind, fun U hU hW => ⟨rfl, Pr_at hK hN hPc hDc hU hW⟩⟩ rfl rfl hl.1 rfl (lv_room (Nat.le_of_ble_eq_true rfl)) dK0_reason_1 ⟨Nat.le_of_ble_eq_true rfl, Nat.le_of_ble_eq_true rfl⟩) hP hD hS hA (fun H locs hP hD hS => ?_)
  refine lv_if_eq (tgt := 14) hx hb dK0_reason_4 (by decide) (fun hc => ?_) (fun hc => ?_)
  · replace hm := ift hm hc
    refine lv_iconst (v := (-1)) hx hb dK0_reason_14 (by decide) ?_
    replace hm := Option.some.inj hm
    simp only [Prod.mk.injEq] at hm
    obtain ⟨rfl, rfl⟩ := hm
    exact k_reti hx hb hr hlocks hP hD hS dK0_reason_15
  · replace hm := iff_ hm hc
    refine lv_iload_n hx hb dK0_reason_7 rfl (lv_at hl 2 rfl) ?_
    obtain ⟨x3, ec4, hm⟩ := bd1_s hm
    have hPc : va_P D vwCl [] H := va_P0
    have hDc : va_D A [] := va_D0
    refine k_calli0 (va_runS (As := [.int v2]) (rest := []) ⟨hx, hb, hml, hown, hts⟩ (kK0_isNode l D cI cZ cB cC H.size v2 x3 ec4) (va_cwS 1 hts (gdS wdt1_185 wdt1_186 wdt1_1 gkK0_isNode) rfl rfl rfl (by decide +kernel) ⟨Nat.le_of_ble_eq_true rfl, Nat.le_of_ble_eq_true rfl⟩) ⟨Pr_blind, fun U hU hW => ⟨rfl, Pr_at hK hN hPc hDc hU hW⟩⟩ rfl rfl hl.1 rfl (lv_room (Nat.le_of_ble_eq_true rfl)) dK0_reason_8 ⟨Nat.le_of_ble_eq_true rfl, Nat.le_of_ble_eq_true rfl⟩) hP hD hS hA (fun H locs hP hD hS => ?_)
    refine lv_if_ne (tgt := 16) hx hb dK0_reason_11 (by decide) (fun hc => ?_) (fun hc => ?_)
    · replace hm := iff_ hm hc
      refine lv_aload_n hx hb dK0_reason_16 rfl (lv_at hl 0 rfl) ?_
      refine va_get (D := D) (ci := 0) (v := .ref tra) (C := RK0) (T := TK0) (N := 10) hx hb hts inK0 hown hK hP 0 rfl rfl 0 (by decide) (hts _ wdt1_143) (fun _ h9 => h9) rfl dK0_reason_17 ?_
      refine lv_iload_n hx hb dK0_reason_20 rfl (lv_at hl 1 rfl) ?_
      refine lv_iload_n hx hb dK0_reason_21 rfl (lv_at hl 2 rfl) ?_
      refine lv_iload_n hx hb dK0_reason_22 rfl (lv_at hl 3 rfl) ?_
      obtain ⟨x5, x6, ec7, hm⟩ := bd2_s hm
      have hPc := hP.sub (ws' := (wT tra tra1 tra2 tra3 cI cZ cB cC trso trob trme trwi)) [1, 2, 3, 4] rfl
      have hDc := hD.sub (ws' := (wT tra tra1 tra2 tra3 cI cZ cB cC trso trob trme trwi)) [1, 2, 3, 4] (by decide) rfl
      refine k_calli (wr := [(oa, .inr (0, [.ref tra, .ref tia, .ref rua, .ref cha, .ref foa, .ref sba, .int ocs, .int oal, .int olt, .int ols])), (tia, .inr (1, [.ref tia1, .ref tia2, .ref tia3, .int tiso])), (tia1, .inl (cI, 72, .inl tiob)), (tia2, .inl (cI, 12, .inl time)), (tia3, .inl (cI, 12, .inl tiwi)), (rua, .inr (2, [.ref rua1, .ref rua2, .ref rua3, .ref rua4, .int run])), (rua1, .inl (cI, 10, .inl ruki)), (rua2, .inl (cI, 10, .inl ruta)), (rua3, .inl (cI, 10, .inl rupr)), (rua4, .inl (cI, 10, .inl runu)), (cha, .inr (3, [.ref cha1, .ref cha2, .ref cha3, .int chn])), (cha1, .inl (cZ, 12, .inl chpu)), (cha2, .inl (cI, 12, .inl chco)), (cha3, .inl (cI, 12, .inl chwe)), (foa, .inr (4, [.ref foa1, .ref foa2, .int fon])), (foa1, .inl (cI, 30, .inl fose)), (foa2, .inl (cI, 30, .inl fosu))]) (w1 := (wT tra tra1 tra2 tra3 cI cZ cB cC trso trob trme x6)) (ws' := (wM oa tra tra1 tra2 tra3 tia tia1 tia2 tia3 rua rua1 rua2 rua3 rua4 cha cha1 cha2 cha3 foa foa1 foa2 sba cI cZ cB cC ocs oal olt ols trso trob trme x6 tiso tiob time tiwi run ruki ruta rupr runu chn chpu chco chwe fon fose fosu)) (va_runV (As := [.int v1, .int v2, .int v3]) (rest := []) ⟨hx, hb, hml, hown, hts⟩ (kK1_nthOfReason l D cI cZ cB cC H.size tra tra1 tra2 tra3 trso trob trme trwi v1 v2 v3 x5 x6 ec7) (cwV 3 hts (gdV wdt2_54 wdt2_55 wdt2_56 wdt1_2 gkK1_nthOfReason) rfl rfl rfl (by decide +kernel) ⟨Nat.le_of_ble_eq_true rfl, Nat.le_of_ble_eq_true rfl⟩) ⟨Pr_blind, va_recv hK hPc (ci := 1) (q0 := 0) rfl rfl, fun U hU hW => ⟨rfl, Pr_at hK hN hPc hDc hU hW⟩⟩ rfl rfl hl.1 rfl (lv_room (Nat.le_of_ble_eq_true rfl)) dK0_reason_23 ⟨Nat.le_of_ble_eq_true rfl, Nat.le_of_ble_eq_true rfl⟩) hP hD hS hA [1, 2, 3, 4] [0, 5, 6, 7, 8, 9, 10, 11, 12, 13, 14, 15, 16, 17, 18, 19, 20] [0, 17, 18, 19, 20, 1, 2, 3, 4, 5, 6, 7, 8, 9, 10, 11, 12, 13, 14, 15, 16] rfl rfl (by decide) (by decide) (by decide) rfl (fun H locs hP hD hS => ?_)
      replace hm := Option.some.inj hm
      simp only [Prod.mk.injEq] at hm
      obtain ⟨rfl, rfl⟩ := hm
      exact k_reti hx hb hr hlocks hP hD hS dK0_reason_26
    · replace hm := ift hm hc
      refine lv_iconst (v := (-1)) hx hb dK0_reason_14 (by decide) ?_
      replace hm := Option.some.inj hm
      simp only [Prod.mk.injEq] at hm
      obtain ⟨rfl, rfl⟩ := hm
      exact k_reti hx hb hr hlocks hP hD hS dK0_reason_15
def mK3_add_A3 (cn : Int32) (cpu : Nat → Int32) (cco : Nat → Int32) (cwe : Nat → Int32) (v1 : Int32) (v2 : Int32) (v3 : Int32) : Option (Int32 × Int32 × (Nat → Int32) × (Nat → Int32) × (Nat → Int32)) :=
  if cn < 12 then
  (bd1 (wrt cpu 12 cn (vp_nar .boolean v1)) fun x1 => bd1 (wrt cco 12 cn v2) fun x2 => bd1 (wrt cwe 12 cn v3) fun x3 => bd1 (some (cn + 1)) fun x4 => some (x4 - 1, x4, x1, x2, x3))
  else
  (some ((-3), cn, cpu, cco, cwe))
def mK3_add_B3 (cn : Int32) (cpu : Nat → Int32) (cco : Nat → Int32) (cwe : Nat → Int32) (v1 : Int32) (v2 : Int32) (kx3 : (Option (Int32 × Int32 × (Nat → Int32) × (Nat → Int32) × (Nat → Int32)))) (rc3 : Int32 → (Option (Int32 × Int32 × (Nat → Int32) × (Nat → Int32) × (Nat → Int32)))) (i4l3 : Int32) : Option (Int32 × Int32 × (Nat → Int32) × (Nat → Int32) × (Nat → Int32)) :=
  if cn ≤ i4l3 then
  (kx3)
  else
  (bd1 (rd cpu 12 i4l3) fun x5 => if x5 = v1 then
    (bd1 (rd cco 12 i4l3) fun x7 => if x7 = v2 then
      (some ((-2), cn, cpu, cco, cwe))
      else
      (bd1 (some (i4l3 + 1)) fun x8 => rc3 x8))
    else
    (bd1 (some (i4l3 + 1)) fun x6 => rc3 x6))
def mK3_add_L3 (cn : Int32) (cpu : Nat → Int32) (cco : Nat → Int32) (cwe : Nat → Int32) (v1 : Int32) (v2 : Int32) (kx3 : (Option (Int32 × Int32 × (Nat → Int32) × (Nat → Int32) × (Nat → Int32)))) : Nat → Int32 → (Option (Int32 × Int32 × (Nat → Int32) × (Nat → Int32) × (Nat → Int32)))
  | 0, _ => none
  | n + 1, i4l3 => mK3_add_B3 cn cpu cco cwe v1 v2 kx3 (mK3_add_L3 cn cpu cco cwe v1 v2 kx3 n) i4l3
def mK3_add (cn : Int32) (cpu : Nat → Int32) (cco : Nat → Int32) (cwe : Nat → Int32) (v1 : Int32) (v2 : Int32) (v3 : Int32) : Option (Int32 × Int32 × (Nat → Int32) × (Nat → Int32) × (Nat → Int32)) :=
  mK3_add_L3 cn cpu cco cwe v1 v2 (mK3_add_A3 cn cpu cco cwe v1 v2 v3) 5000 0
abbrev rmK3_add : Room := { frames := 0, cells := 0, slots := 0, locals := 0 }
set_option maxHeartbeats 4000000 in
set_option maxRecDepth 100000 in
theorem kK3_add (l : Launch) (D : va_G) (cI cZ cB cC : ClassId) (sz : Nat) (ca : Nat) (ca1 : Nat) (ca2 : Nat) (ca3 : Nat) (cn : Int32) (cpu : Nat → Int32) (cco : Nat → Int32) (cwe : Nat → Int32) (v1 : Int32) (v2 : Int32) (v3 : Int32) (r0 : Int32) (cn_r : Int32) (cpu_r : Nat → Int32) (cco_r : Nat → Int32) (cwe_r : Nat → Int32) (hm : mK3_add cn cpu cco cwe v1 v2 v3 = some (r0, cn_r, cpu_r, cco_r, cwe_r)) : Met l yK3_add wsK3_add rmK3_add (va_Pc [.ref ca, .int v1, .int v2, .int v3] (Pr D (tyL cI cZ cB cC) sz (wC ca ca1 ca2 ca3 cI cZ cB cC cn cpu cco cwe))) (QI D (va_A (wC ca ca1 ca2 ca3 cI cZ cB cC cn cpu cco cwe) sz) r0 (wC ca ca1 ca2 ca3 cI cZ cB cC cn_r cpu_r cco_r cwe_r)) 0 0 (va_A (wC ca ca1 ca2 ca3 cI cZ cB cC cn cpu cco cwe) sz) := by
  refine Met.ofW (cc := cK3_add) (maxL := 5) (ret := (some .int)) (by decide) rfl ?_
  intro p e s m args below meth c s₁ B hml hv
  obtain ⟨rfl, hsz, hP, hK, hD0, hN⟩ := hv
  have hx := B.exec
  have hb := B.bytes
  have hr := B.returns
  have hts := htsA (atoms_spec (ws := wsK3_add) B.pre)
  have hown : s.vm.findClass RK3 = some m.cls := findClass_of_methodNamed B.named
  have hlocks := B.notSynchronized
  subst hsz
  have hD := hD0.self (sz := s.heap.size)
  generalize hAe : va_A (wC ca ca1 ca2 ca3 cI cZ cB cC cn cpu cco cwe) s.heap.size = A at hD ⊢
  have hA : ∀ q : Nat, s.heap.size ≤ q → A q := fun q h => by rw [← hAe]; exact Or.inr h
  refine kstart (A := A) hP (fun H hP hS => ?_)
  have hl := lv_entry ([.ref ca, .int v1, .int v2, .int v3]) (n := 5) (Nat.le_of_ble_eq_true rfl)
  rw [lg_entry_eq]
  generalize (lg_sl ([.ref ca, .int v1, .int v2, .int v3]) ++ List.replicate (5 - (lg_sl ([.ref ca, .int v1, .int v2, .int v3])).length) Slot.unset).toArray = ls at hl ⊢
  have hl : lv_has ls 5 [(0, .ref ca), (1, .int v1), (2, .int v2), (3, .int v3)] := hl
  unfold mK3_add at hm
  refine lv_iconst (v := 0) hx hb dK3_add_0 (by decide) ?_
  refine lv_istore (lv' := [(4, .int 0), (0, .ref ca), (1, .int v1), (2, .int v2), (3, .int v3)]) hx hb dK3_add_1 hl (by decide) rfl (fun ls hl => ?_)
  have lx3 : ∀ (H : Heap) (locs : List Loc) (ls : Array Slot), mK3_add_A3 cn cpu cco cwe v1 v2 v3 = some (r0, cn_r, cpu_r, cco_r, cwe_r) → va_P D vwCl (wC ca ca1 ca2 ca3 cI cZ cB cC cn cpu cco cwe) H → va_D A (wC ca ca1 ca2 ca3 cI cZ cB cC cn cpu cco cwe) → va_S A s.heap H locs → lv_has ls 5 [(0, .ref ca), (1, .int v1), (2, .int v2), (3, .int v3)] → W p l e (headSpec wsK3_add rmK3_add).room s m ([.ref ca, .int v1, .int v2, .int v3] : List Value).toArray below meth c H locs 0 0 (MQ below (QI D A r0 (wC ca ca1 ca2 ca3 cI cZ cB cC cn_r cpu_r cco_r cwe_r)) ([.ref ca, .int v1, .int v2, .int v3] : List Value).toArray s 0 0 A) (F0 m 43 ls []) := by
    intro H locs ls hm hP hD hS hl
    unfold mK3_add_A3 at hm
    refine lv_aload_n hx hb dK3_add_43 rfl (lv_at hl 0 rfl) ?_
    refine va_get (D := D) (ci := 3) (v := .int cn) (C := RK3) (T := TK3) (N := 4) hx hb hts inK3 hown hK hP 0 rfl rfl 3 (by decide) (hts _ wdt1_82) (fun _ h9 => h9) rfl dK3_add_44 ?_
    refine lv_bipush (v := 12) hx hb dK3_add_47 (by decide) ?_
    refine lv_icmp_lt (tgt := 55) hx hb dK3_add_49 (by decide) (fun hc => ?_) (fun hc => ?_)
    · replace hm := ift hm hc
      refine lv_aload_n hx hb dK3_add_55 rfl (lv_at hl 0 rfl) ?_
      refine va_get (D := D) (ci := 3) (v := .ref ca1) (C := RK3) (T := TK3) (N := 4) hx hb hts inK3 hown hK hP 0 rfl rfl 0 (by decide) (hts _ wdt1_79) (fun _ h9 => h9) rfl dK3_add_56 ?_
      refine lv_aload_n hx hb dK3_add_59 rfl (lv_at hl 0 rfl) ?_
      refine va_get (D := D) (ci := 3) (v := .int cn) (C := RK3) (T := TK3) (N := 4) hx hb hts inK3 hown hK hP 0 rfl rfl 3 (by decide) (hts _ wdt1_82) (fun _ h9 => h9) rfl dK3_add_60 ?_
      refine lv_iload_n hx hb dK3_add_63 rfl (lv_at hl 1 rfl) ?_
      obtain ⟨x1, ex1, hm⟩ := bd1_s hm
      obtain ⟨hix1, ex1⟩ := wrt_s ex1
      refine va_zast hx hb hK hP hD hS 1 1 rfl rfl hix1 dK3_add_64 (fun H locs hP hD hS => ?_)
      rw [ex1] at hP hD
      have hP : va_P D vwCl (wC ca ca1 ca2 ca3 cI cZ cB cC cn x1 cco cwe) H := hP
      have hD : va_D A (wC ca ca1 ca2 ca3 cI cZ cB cC cn x1 cco cwe) := hD
      refine lv_aload_n hx hb dK3_add_65 rfl (lv_at hl 0 rfl) ?_
      refine va_get (D := D) (ci := 3) (v := .ref ca2) (C := RK3) (T := TK3) (N := 4) hx hb hts inK3 hown hK hP 0 rfl rfl 1 (by decide) (hts _ wdt1_80) (fun _ h9 => h9) rfl dK3_add_66 ?_
      refine lv_aload_n hx hb dK3_add_69 rfl (lv_at hl 0 rfl) ?_
      refine va_get (D := D) (ci := 3) (v := .int cn) (C := RK3) (T := TK3) (N := 4) hx hb hts inK3 hown hK hP 0 rfl rfl 3 (by decide) (hts _ wdt1_82) (fun _ h9 => h9) rfl dK3_add_70 ?_
      refine lv_iload_n hx hb dK3_add_73 rfl (lv_at hl 2 rfl) ?_
      obtain ⟨x2, ex2, hm⟩ := bd1_s hm
      obtain ⟨hix2, ex2⟩ := wrt_s ex2
      refine va_iast hx hb hK hP hD hS 2 0 rfl rfl hix2 dK3_add_74 (fun H locs hP hD hS => ?_)
      rw [ex2] at hP hD
      have hP : va_P D vwCl (wC ca ca1 ca2 ca3 cI cZ cB cC cn x1 x2 cwe) H := hP
      have hD : va_D A (wC ca ca1 ca2 ca3 cI cZ cB cC cn x1 x2 cwe) := hD
      refine lv_aload_n hx hb dK3_add_75 rfl (lv_at hl 0 rfl) ?_
      refine va_get (D := D) (ci := 3) (v := .ref ca3) (C := RK3) (T := TK3) (N := 4) hx hb hts inK3 hown hK hP 0 rfl rfl 2 (by decide) (hts _ wdt1_81) (fun _ h9 => h9) rfl dK3_add_76 ?_
      refine lv_aload_n hx hb dK3_add_79 rfl (lv_at hl 0 rfl) ?_
      refine va_get (D := D) (ci := 3) (v := .int cn) (C := RK3) (T := TK3) (N := 4) hx hb hts inK3 hown hK hP 0 rfl rfl 3 (by decide) (hts _ wdt1_82) (fun _ h9 => h9) rfl dK3_add_80 ?_
      refine lv_iload_n hx hb dK3_add_83 rfl (lv_at hl 3 rfl) ?_
      obtain ⟨x3, ex3, hm⟩ := bd1_s hm
      obtain ⟨hix3, ex3⟩ := wrt_s ex3
      refine va_iast hx hb hK hP hD hS 3 0 rfl rfl hix3 dK3_add_84 (fun H locs hP hD hS => ?_)
      rw [ex3] at hP hD
      have hP : va_P D vwCl (wC ca ca1 ca2 ca3 cI cZ cB cC cn x1 x2 x3) H := hP
      have hD : va_D A (wC ca ca1 ca2 ca3 cI cZ cB cC cn x1 x2 x3) := hD
      refine lv_aload_n hx hb dK3_add_85 rfl (lv_at hl 0 rfl) ?_
      refine lv_dup hx hb dK3_add_86 rfl ?_
      refine va_get (D := D) (ci := 3) (v := .int cn) (C := RK3) (T := TK3) (N := 4) hx hb hts inK3 hown hK hP 0 rfl rfl 3 (by decide) (hts _ wdt1_82) (fun _ h9 => h9) rfl dK3_add_87 ?_
      refine lv_iconst (v := 1) hx hb dK3_add_90 (by decide) ?_
      refine lv_iadd hx hb dK3_add_91 ?_
      obtain ⟨x4, ex4, hm⟩ := bd1_s hm
      refine topi (Option.some.inj ex4) ?_
      refine va_put (D := D) (ci := 3) (v := .int x4) (ty := .int) (C := RK3) (T := TK3) (N := 4) hx hb hts inK3 tyK3 tyK3_ok nmK3 hown hK hP hD hS 0 rfl rfl 3 (by decide) (hts _ wdt1_82) (fun _ h9 => h9) rfl (by decide +kernel) rfl rfl (Nat.le_of_ble_eq_true rfl) dK3_add_92 (fun H locs hP hD hS => ?_)
      have hP : va_P D vwCl (wC ca ca1 ca2 ca3 cI cZ cB cC x4 x1 x2 x3) H := hP
      have hD : va_D A (wC ca ca1 ca2 ca3 cI cZ cB cC x4 x1 x2 x3) := hD
      refine lv_aload_n hx hb dK3_add_95 rfl (lv_at hl 0 rfl) ?_
      refine va_get (D := D) (ci := 3) (v := .int x4) (C := RK3) (T := TK3) (N := 4) hx hb hts inK3 hown hK hP 0 rfl rfl 3 (by decide) (hts _ wdt1_82) (fun _ h9 => h9) rfl dK3_add_96 ?_
      refine lv_iconst (v := 1) hx hb dK3_add_99 (by decide) ?_
      refine lv_isub hx hb dK3_add_100 ?_
      replace hm := Option.some.inj hm
      simp only [Prod.mk.injEq] at hm
      obtain ⟨rfl, rfl, rfl, rfl, rfl⟩ := hm
      exact k_reti hx hb hr hlocks hP hD hS dK3_add_101
    · replace hm := iff_ hm hc
      refine lv_bipush (v := (-3)) hx hb dK3_add_52 (by decide) ?_
      replace hm := Option.some.inj hm
      simp only [Prod.mk.injEq] at hm
      obtain ⟨rfl, rfl, rfl, rfl, rfl⟩ := hm
      exact k_reti hx hb hr hlocks hP hD hS dK3_add_54
  have lp3 : ∀ (n3 : Nat) (i4l3 : Int32) (H : Heap) (locs : List Loc) (ls : Array Slot), mK3_add_L3 cn cpu cco cwe v1 v2 (mK3_add_A3 cn cpu cco cwe v1 v2 v3) n3 i4l3 = some (r0, cn_r, cpu_r, cco_r, cwe_r) → va_P D vwCl (wC ca ca1 ca2 ca3 cI cZ cB cC cn cpu cco cwe) H → va_D A (wC ca ca1 ca2 ca3 cI cZ cB cC cn cpu cco cwe) → va_S A s.heap H locs → lv_has ls 5 [(4, .int i4l3), (0, .ref ca), (1, .int v1), (2, .int v2), (3, .int v3)] → W p l e (headSpec wsK3_add rmK3_add).room s m ([.ref ca, .int v1, .int v2, .int v3] : List Value).toArray below meth c H locs 0 0 (MQ below (QI D A r0 (wC ca ca1 ca2 ca3 cI cZ cB cC cn_r cpu_r cco_r cwe_r)) ([.ref ca, .int v1, .int v2, .int v3] : List Value).toArray s 0 0 A) (F0 m 3 ls []) := by
    intro n3
    induction n3 with
    | zero => intro i4l3 H locs ls hm; exact nomatch (show none = _ from hm)
    | succ n3 ih3 =>
      intro i4l3 H locs ls hm hP hD hS hl
      replace hm : mK3_add_B3 cn cpu cco cwe v1 v2 (mK3_add_A3 cn cpu cco cwe v1 v2 v3) (mK3_add_L3 cn cpu cco cwe v1 v2 (mK3_add_A3 cn cpu cco cwe v1 v2 v3) n3) i4l3 = some (r0, cn_r, cpu_r, cco_r, cwe_r) := hm
      unfold mK3_add_B3 at hm
      refine lv_iload hx hb dK3_add_3 (lv_at hl 0 rfl) ?_
      refine lv_aload_n hx hb dK3_add_5 rfl (lv_at hl 1 rfl) ?_
      refine va_get (D := D) (ci := 3) (v := .int cn) (C := RK3) (T := TK3) (N := 4) hx hb hts inK3 hown hK hP 0 rfl rfl 3 (by decide) (hts _ wdt1_82) (fun _ h9 => h9) rfl dK3_add_6 ?_
      refine lv_icmp_ge (tgt := 43) hx hb dK3_add_9 (by decide) (fun hc => ?_) (fun hc => ?_)
      · replace hm := ift hm hc
        exact lx3  _ _ _ hm hP hD hS (lv_sub hl [1, 2, 3, 4] rfl)
      · replace hm := iff_ hm hc
        refine lv_aload_n hx hb dK3_add_12 rfl (lv_at hl 1 rfl) ?_
        refine va_get (D := D) (ci := 3) (v := .ref ca1) (C := RK3) (T := TK3) (N := 4) hx hb hts inK3 hown hK hP 0 rfl rfl 0 (by decide) (hts _ wdt1_79) (fun _ h9 => h9) rfl dK3_add_13 ?_
        refine lv_iload hx hb dK3_add_16 (lv_at hl 0 rfl) ?_
        obtain ⟨x5, ex5, hm⟩ := bd1_s hm
        obtain ⟨hix5, ex5⟩ := rd_s ex5
        refine va_zald hx hb hK hP 1 1 rfl rfl hix5 dK3_add_18 ?_
        refine topi ex5 ?_
        refine lv_iload_n hx hb dK3_add_19 rfl (lv_at hl 2 rfl) ?_
        refine lv_icmp_ne (tgt := 37) hx hb dK3_add_20 (by decide) (fun hc => ?_) (fun hc => ?_)
        · replace hm := iff_ hm hc
          obtain ⟨x6, ex6, hm⟩ := bd1_s hm
          refine lv_iinc (v := x6) (lv' := [(4, .int x6), (0, .ref ca), (1, .int v1), (2, .int v2), (3, .int v3)]) hx hb dK3_add_37 hl (k := 0) rfl (by rw [← Option.some.inj ex6]; rfl) (by decide) rfl (fun ls hl => ?_)
          refine lv_goto (tgt := 3) hx hb dK3_add_40 (by decide) ?_
          exact ih3 x6 _ _ _ hm hP hD hS (lv_sub hl [0, 1, 2, 3, 4] rfl)
        · replace hm := ift hm hc
          refine lv_aload_n hx hb dK3_add_23 rfl (lv_at hl 1 rfl) ?_
          refine va_get (D := D) (ci := 3) (v := .ref ca2) (C := RK3) (T := TK3) (N := 4) hx hb hts inK3 hown hK hP 0 rfl rfl 1 (by decide) (hts _ wdt1_80) (fun _ h9 => h9) rfl dK3_add_24 ?_
          refine lv_iload hx hb dK3_add_27 (lv_at hl 0 rfl) ?_
          obtain ⟨x7, ex7, hm⟩ := bd1_s hm
          obtain ⟨hix7, ex7⟩ := rd_s ex7
          refine va_iald hx hb hK hP 2 0 rfl rfl hix7 dK3_add_29 ?_
          refine topi ex7 ?_
          refine lv_iload_n hx hb dK3_add_30 rfl (lv_at hl 3 rfl) ?_
          refine lv_icmp_ne (tgt := 37) hx hb dK3_add_31 (by decide) (fun hc => ?_) (fun hc => ?_)
          · replace hm := iff_ hm hc
            obtain ⟨x8, ex8, hm⟩ := bd1_s hm
            refine lv_iinc (v := x8) (lv' := [(4, .int x8), (0, .ref ca), (1, .int v1), (2, .int v2), (3, .int v3)]) hx hb dK3_add_37 hl (k := 0) rfl (by rw [← Option.some.inj ex8]; rfl) (by decide) rfl (fun ls hl => ?_)
            refine lv_goto (tgt := 3) hx hb dK3_add_40 (by decide) ?_
            exact ih3 x8 _ _ _ hm hP hD hS (lv_sub hl [0, 1, 2, 3, 4] rfl)
          · replace hm := ift hm hc
            refine lv_bipush (v := (-2)) hx hb dK3_add_34 (by decide) ?_
            replace hm := Option.some.inj hm
            simp only [Prod.mk.injEq] at hm
            obtain ⟨rfl, rfl, rfl, rfl, rfl⟩ := hm
            exact k_reti hx hb hr hlocks hP hD hS dK3_add_36
  exact lp3 5000 0 _ _ _ hm hP hD hS (lv_sub hl [0, 1, 2, 3, 4] rfl)
def mK0_change (chn : Int32) (chpu : Nat → Int32) (chco : Nat → Int32) (chwe : Nat → Int32) (v1 : Int32) (v2 : Int32) (v3 : Int32) (v4 : Int32) (v5 : Int32) : Option (Int32 × Int32 × (Nat → Int32) × (Nat → Int32) × (Nat → Int32)) :=
  bd1 (mK0_isTriple v2 v3 v4) fun x1 => if x1 = 0 then
  (some ((-1), chn, chpu, chco, chwe))
  else
  (if v5 < 1 then
    (some ((-1), chn, chpu, chco, chwe))
    else
    (if v5 ≤ 9 then
      (bd1 (mK0_codeOf v2 v3 v4) fun x3 => bd5 (mK3_add chn chpu chco chwe v1 x3 v5) fun x5 x6 x7 x8 x9 => some (x5, x6, x7, x8, x9))
      else
      (some ((-1), chn, chpu, chco, chwe))))
abbrev rmK0_change : Room := { frames := 2, cells := 0, slots := 0, locals := 42 }
set_option maxHeartbeats 4000000 in
set_option maxRecDepth 100000 in
theorem kK0_change (l : Launch) (D : va_G) (cI cZ cB cC : ClassId) (sz : Nat) (oa : Nat) (tra : Nat) (tra1 : Nat) (tra2 : Nat) (tra3 : Nat) (tia : Nat) (tia1 : Nat) (tia2 : Nat) (tia3 : Nat) (rua : Nat) (rua1 : Nat) (rua2 : Nat) (rua3 : Nat) (rua4 : Nat) (cha : Nat) (cha1 : Nat) (cha2 : Nat) (cha3 : Nat) (foa : Nat) (foa1 : Nat) (foa2 : Nat) (sba : Nat) (ocs : Int32) (oal : Int32) (olt : Int32) (ols : Int32) (trso : Int32) (trob : Nat → Int32) (trme : Nat → Int32) (trwi : Nat → Int32) (tiso : Int32) (tiob : Nat → Int32) (time : Nat → Int32) (tiwi : Nat → Int32) (run : Int32) (ruki : Nat → Int32) (ruta : Nat → Int32) (rupr : Nat → Int32) (runu : Nat → Int32) (chn : Int32) (chpu : Nat → Int32) (chco : Nat → Int32) (chwe : Nat → Int32) (fon : Int32) (fose : Nat → Int32) (fosu : Nat → Int32) (v1 : Int32) (v2 : Int32) (v3 : Int32) (v4 : Int32) (v5 : Int32) (r0 : Int32) (chn_r : Int32) (chpu_r : Nat → Int32) (chco_r : Nat → Int32) (chwe_r : Nat → Int32) (hm : mK0_change chn chpu chco chwe v1 v2 v3 v4 v5 = some (r0, chn_r, chpu_r, chco_r, chwe_r)) : Met l yK0_change wsK0_change rmK0_change (va_Pc [.ref oa, .int v1, .int v2, .int v3, .int v4, .int v5] (Pr D (tyL cI cZ cB cC) sz (wM oa tra tra1 tra2 tra3 tia tia1 tia2 tia3 rua rua1 rua2 rua3 rua4 cha cha1 cha2 cha3 foa foa1 foa2 sba cI cZ cB cC ocs oal olt ols trso trob trme trwi tiso tiob time tiwi run ruki ruta rupr runu chn chpu chco chwe fon fose fosu))) (QI D (va_A (wM oa tra tra1 tra2 tra3 tia tia1 tia2 tia3 rua rua1 rua2 rua3 rua4 cha cha1 cha2 cha3 foa foa1 foa2 sba cI cZ cB cC ocs oal olt ols trso trob trme trwi tiso tiob time tiwi run ruki ruta rupr runu chn chpu chco chwe fon fose fosu) sz) r0 (wM oa tra tra1 tra2 tra3 tia tia1 tia2 tia3 rua rua1 rua2 rua3 rua4 cha cha1 cha2 cha3 foa foa1 foa2 sba cI cZ cB cC ocs oal olt ols trso trob trme trwi tiso tiob time tiwi run ruki ruta rupr runu chn_r chpu_r chco_r chwe_r fon fose fosu)) 0 0 (va_A (wM oa tra tra1 tra2 tra3 tia tia1 tia2 tia3 rua rua1 rua2 rua3 rua4 cha cha1 cha2 cha3 foa foa1 foa2 sba cI cZ cB cC ocs oal olt ols trso trob trme trwi tiso tiob time tiwi run ruki ruta rupr runu chn chpu chco chwe fon fose fosu) sz) := by
  refine Met.ofW (cc := cK0_change) (maxL := 6) (ret := (some .int)) (by decide) rfl ?_
  intro p e s m args below meth c s₁ B hml hv
  obtain ⟨rfl, hsz, hP, hK, hD0, hN⟩ := hv
  have hx := B.exec
  have hb := B.bytes
  have hr := B.returns
  have hts := htsA (atoms_spec (ws := wsK0_change) B.pre)
  have hown : s.vm.findClass RK0 = some m.cls := findClass_of_methodNamed B.named
  have hlocks := B.notSynchronized
  subst hsz
  have hD := hD0.self (sz := s.heap.size)
  generalize hAe : va_A (wM oa tra tra1 tra2 tra3 tia tia1 tia2 tia3 rua rua1 rua2 rua3 rua4 cha cha1 cha2 cha3 foa foa1 foa2 sba cI cZ cB cC ocs oal olt ols trso trob trme trwi tiso tiob time tiwi run ruki ruta rupr runu chn chpu chco chwe fon fose fosu) s.heap.size = A at hD ⊢
  have hA : ∀ q : Nat, s.heap.size ≤ q → A q := fun q h => by rw [← hAe]; exact Or.inr h
  refine kstart (A := A) hP (fun H hP hS => ?_)
  have hl := lv_entry ([.ref oa, .int v1, .int v2, .int v3, .int v4, .int v5]) (n := 6) (Nat.le_of_ble_eq_true rfl)
  rw [lg_entry_eq]
  generalize (lg_sl ([.ref oa, .int v1, .int v2, .int v3, .int v4, .int v5]) ++ List.replicate (6 - (lg_sl ([.ref oa, .int v1, .int v2, .int v3, .int v4, .int v5])).length) Slot.unset).toArray = ls at hl ⊢
  have hl : lv_has ls 6 [(0, .ref oa), (1, .int v1), (2, .int v2), (3, .int v3), (4, .int v4), (5, .int v5)] := hl
  unfold mK0_change at hm
  refine lv_iload_n hx hb dK0_change_0 rfl (lv_at hl 2 rfl) ?_
  refine lv_iload_n hx hb dK0_change_1 rfl (lv_at hl 3 rfl) ?_
  refine lv_iload hx hb dK0_change_2 (lv_at hl 4 rfl) ?_
  obtain ⟨x1, ec2, hm⟩ := bd1_s hm
  have hPc : va_P D vwCl [] H := va_P0
  have hDc : va_D A [] := va_D0
  refine k_calli0 (va_runS (As := [.int v2, .int v3, .int v4]) (rest := []) ⟨hx, hb, hml, hown, hts⟩ (kK0_isTriple l D cI cZ cB cC H.size v2 v3 v4 x1 ec2) (va_cwS 3 hts (gdS wdt1_182 wdt1_183 wdt1_1 gkK0_isTriple) rfl rfl rfl (by decide +kernel) ⟨Nat.le_of_ble_eq_true rfl, Nat.le_of_ble_eq_true rfl⟩) ⟨Pr_blind, fun U hU hW => ⟨rfl, Pr_at hK hN hPc hDc hU hW⟩⟩ rfl rfl hl.1 rfl (lv_room (Nat.le_of_ble_eq_true rfl)) dK0_change_4 ⟨Nat.le_of_ble_eq_true rfl, Nat.le_of_ble_eq_true rfl⟩) hP hD hS hA (fun H locs hP hD hS => ?_)
  refine lv_if_eq (tgt := 23) hx hb dK0_change_7 (by decide) (fun hc => ?_) (fun hc => ?_)
  · replace hm := ift hm hc
    refine lv_iconst (v := (-1)) hx hb dK0_change_23 (by decide) ?_
    replace hm := Option.some.inj hm
    simp only [Prod.mk.injEq] at hm
    obtain ⟨rfl, rfl, rfl, rfl, rfl⟩ := hm
    exact k_reti hx hb hr hlocks hP hD hS dK0_change_24
  · replace hm := iff_ hm hc
    refine lv_iload hx hb dK0_change_10 (lv_at hl 5 rfl) ?_
    refine lv_iconst (v := 1) hx hb dK0_change_12 (by decide) ?_
    refine lv_icmp_lt (tgt := 23) hx hb dK0_change_13 (by decide) (fun hc => ?_) (fun hc => ?_)
    · replace hm := ift hm hc
      refine lv_iconst (v := (-1)) hx hb dK0_change_23 (by decide) ?_
      replace hm := Option.some.inj hm
      simp only [Prod.mk.injEq] at hm
      obtain ⟨rfl, rfl, rfl, rfl, rfl⟩ := hm
      exact k_reti hx hb hr hlocks hP hD hS dK0_change_24
    · replace hm := iff_ hm hc
      refine lv_iload hx hb dK0_change_16 (lv_at hl 5 rfl) ?_
      refine lv_bipush (v := 9) hx hb dK0_change_18 (by decide) ?_
      refine lv_icmp_le (tgt := 25) hx hb dK0_change_20 (by decide) (fun hc => ?_) (fun hc => ?_)
      · replace hm := ift hm hc
        refine lv_aload_n hx hb dK0_change_25 rfl (lv_at hl 0 rfl) ?_
        refine va_get (D := D) (ci := 0) (v := .ref cha) (C := RK0) (T := TK0) (N := 10) hx hb hts inK0 hown hK hP 0 rfl rfl 3 (by decide) (hts _ wdt1_146) (fun _ h9 => h9) rfl dK0_change_26 ?_
        refine lv_iload_n hx hb dK0_change_29 rfl (lv_at hl 1 rfl) ?_
        refine lv_iload_n hx hb dK0_change_30 rfl (lv_at hl 2 rfl) ?_
        refine lv_iload_n hx hb dK0_change_31 rfl (lv_at hl 3 rfl) ?_
        refine lv_iload hx hb dK0_change_32 (lv_at hl 4 rfl) ?_
        obtain ⟨x3, ec4, hm⟩ := bd1_s hm
        have hPc : va_P D vwCl [] H := va_P0
        have hDc : va_D A [] := va_D0
        refine k_calli0 (va_runS (As := [.int v2, .int v3, .int v4]) (rest := [.int v1, .ref cha]) ⟨hx, hb, hml, hown, hts⟩ (kK0_codeOf l D cI cZ cB cC H.size v2 v3 v4 x3 ec4) (va_cwS 3 hts (gdS wdt1_202 wdt1_203 wdt1_1 gkK0_codeOf) rfl rfl rfl (by decide +kernel) ⟨Nat.le_of_ble_eq_true rfl, Nat.le_of_ble_eq_true rfl⟩) ⟨Pr_blind, fun U hU hW => ⟨rfl, Pr_at hK hN hPc hDc hU hW⟩⟩ rfl rfl hl.1 rfl (lv_room (Nat.le_of_ble_eq_true rfl)) dK0_change_34 ⟨Nat.le_of_ble_eq_true rfl, Nat.le_of_ble_eq_true rfl⟩) hP hD hS hA (fun H locs hP hD hS => ?_)
        refine lv_iload hx hb dK0_change_37 (lv_at hl 5 rfl) ?_
        obtain ⟨x5, x6, x7, x8, x9, ec10, hm⟩ := bd5_s hm
        have hPc := hP.sub (ws' := (wC cha cha1 cha2 cha3 cI cZ cB cC chn chpu chco chwe)) [14, 15, 16, 17] rfl
        have hDc := hD.sub (ws' := (wC cha cha1 cha2 cha3 cI cZ cB cC chn chpu chco chwe)) [14, 15, 16, 17] (by decide) rfl
        refine k_calli (wr := [(oa, .inr (0, [.ref tra, .ref tia, .ref rua, .ref cha, .ref foa, .ref sba, .int ocs, .int oal, .int olt, .int ols])), (tra, .inr (1, [.ref tra1, .ref tra2, .ref tra3, .int trso])), (tra1, .inl (cI, 72, .inl trob)), (tra2, .inl (cI, 12, .inl trme)), (tra3, .inl (cI, 12, .inl trwi)), (tia, .inr (1, [.ref tia1, .ref tia2, .ref tia3, .int tiso])), (tia1, .inl (cI, 72, .inl tiob)), (tia2, .inl (cI, 12, .inl time)), (tia3, .inl (cI, 12, .inl tiwi)), (rua, .inr (2, [.ref rua1, .ref rua2, .ref rua3, .ref rua4, .int run])), (rua1, .inl (cI, 10, .inl ruki)), (rua2, .inl (cI, 10, .inl ruta)), (rua3, .inl (cI, 10, .inl rupr)), (rua4, .inl (cI, 10, .inl runu)), (foa, .inr (4, [.ref foa1, .ref foa2, .int fon])), (foa1, .inl (cI, 30, .inl fose)), (foa2, .inl (cI, 30, .inl fosu))]) (w1 := (wC cha cha1 cha2 cha3 cI cZ cB cC x6 x7 x8 x9)) (ws' := (wM oa tra tra1 tra2 tra3 tia tia1 tia2 tia3 rua rua1 rua2 rua3 rua4 cha cha1 cha2 cha3 foa foa1 foa2 sba cI cZ cB cC ocs oal olt ols trso trob trme trwi tiso tiob time tiwi run ruki ruta rupr runu x6 x7 x8 x9 fon fose fosu)) (va_runV (As := [.int v1, .int x3, .int v5]) (rest := []) ⟨hx, hb, hml, hown, hts⟩ (kK3_add l D cI cZ cB cC H.size cha cha1 cha2 cha3 chn chpu chco chwe v1 x3 v5 x5 x6 x7 x8 x9 ec10) (cwV 3 hts (gdV wdt2_71 wdt2_72 wdt2_73 wdt1_4 gkK3_add) rfl rfl rfl (by decide +kernel) ⟨Nat.le_of_ble_eq_true rfl, Nat.le_of_ble_eq_true rfl⟩) ⟨Pr_blind, va_recv hK hPc (ci := 3) (q0 := 0) rfl rfl, fun U hU hW => ⟨rfl, Pr_at hK hN hPc hDc hU hW⟩⟩ rfl rfl hl.1 rfl (lv_room (Nat.le_of_ble_eq_true rfl)) dK0_change_39 ⟨Nat.le_of_ble_eq_true rfl, Nat.le_of_ble_eq_true rfl⟩) hP hD hS hA [14, 15, 16, 17] [0, 1, 2, 3, 4, 5, 6, 7, 8, 9, 10, 11, 12, 13, 18, 19, 20] [0, 1, 2, 3, 4, 5, 6, 7, 8, 9, 10, 11, 12, 13, 17, 18, 19, 20, 14, 15, 16] rfl rfl (by decide) (by decide) (by decide) rfl (fun H locs hP hD hS => ?_)
        replace hm := Option.some.inj hm
        simp only [Prod.mk.injEq] at hm
        obtain ⟨rfl, rfl, rfl, rfl, rfl⟩ := hm
        exact k_reti hx hb hr hlocks hP hD hS dK0_change_42
      · replace hm := iff_ hm hc
        refine lv_iconst (v := (-1)) hx hb dK0_change_23 (by decide) ?_
        replace hm := Option.some.inj hm
        simp only [Prod.mk.injEq] at hm
        obtain ⟨rfl, rfl, rfl, rfl, rfl⟩ := hm
        exact k_reti hx hb hr hlocks hP hD hS dK0_change_24
def mK2_has (rn : Int32) (v1 : Int32) : Option (Int32) :=
  if v1 < 0 then
  (some 0)
  else
  (if rn ≤ v1 then
    (some 0)
    else
    (some 1))
abbrev rmK2_has : Room := { frames := 0, cells := 0, slots := 0, locals := 0 }
set_option maxHeartbeats 4000000 in
set_option maxRecDepth 100000 in
theorem kK2_has (l : Launch) (D : va_G) (cI cZ cB cC : ClassId) (sz : Nat) (ra : Nat) (ra1 : Nat) (ra2 : Nat) (ra3 : Nat) (ra4 : Nat) (rn : Int32) (rki : Nat → Int32) (rta : Nat → Int32) (rpr : Nat → Int32) (rnu : Nat → Int32) (v1 : Int32) (r0 : Int32) (hm : mK2_has rn v1 = some r0) : Met l yK2_has wsK2_has rmK2_has (va_Pc [.ref ra, .int v1] (Pr D (tyL cI cZ cB cC) sz (wR ra ra1 ra2 ra3 ra4 cI cZ cB cC rn rki rta rpr rnu))) (QI D (va_A (wR ra ra1 ra2 ra3 ra4 cI cZ cB cC rn rki rta rpr rnu) sz) r0 (wR ra ra1 ra2 ra3 ra4 cI cZ cB cC rn rki rta rpr rnu)) 0 0 (va_A (wR ra ra1 ra2 ra3 ra4 cI cZ cB cC rn rki rta rpr rnu) sz) := by
  refine Met.ofW (cc := cK2_has) (maxL := 2) (ret := (some .boolean)) (by decide) rfl ?_
  intro p e s m args below meth c s₁ B hml hv
  obtain ⟨rfl, hsz, hP, hK, hD0, hN⟩ := hv
  have hx := B.exec
  have hb := B.bytes
  have hr := B.returns
  have hts := htsA (atoms_spec (ws := wsK2_has) B.pre)
  have hown : s.vm.findClass RK2 = some m.cls := findClass_of_methodNamed B.named
  have hlocks := B.notSynchronized
  subst hsz
  have hD := hD0.self (sz := s.heap.size)
  generalize hAe : va_A (wR ra ra1 ra2 ra3 ra4 cI cZ cB cC rn rki rta rpr rnu) s.heap.size = A at hD ⊢
  have hA : ∀ q : Nat, s.heap.size ≤ q → A q := fun q h => by rw [← hAe]; exact Or.inr h
  refine kstart (A := A) hP (fun H hP hS => ?_)
  have hl := lv_entry ([.ref ra, .int v1]) (n := 2) (Nat.le_of_ble_eq_true rfl)
  rw [lg_entry_eq]
  generalize (lg_sl ([.ref ra, .int v1]) ++ List.replicate (2 - (lg_sl ([.ref ra, .int v1])).length) Slot.unset).toArray = ls at hl ⊢
  have hl : lv_has ls 2 [(0, .ref ra), (1, .int v1)] := hl
  unfold mK2_has at hm
  refine lv_iload_n hx hb dK2_has_0 rfl (lv_at hl 1 rfl) ?_
  refine lv_if_lt (tgt := 16) hx hb dK2_has_1 (by decide) (fun hc => ?_) (fun hc => ?_)
  · replace hm := ift hm hc
    refine lv_iconst (v := 0) hx hb dK2_has_16 (by decide) ?_
    replace hm := Option.some.inj hm
    subst hm
    exact k_retz hx hb hr hlocks rfl hP hD hS dK2_has_17
  · replace hm := iff_ hm hc
    refine lv_iload_n hx hb dK2_has_4 rfl (lv_at hl 1 rfl) ?_
    refine lv_aload_n hx hb dK2_has_5 rfl (lv_at hl 0 rfl) ?_
    refine va_get (D := D) (ci := 2) (v := .int rn) (C := RK2) (T := TK2) (N := 5) hx hb hts inK2 hown hK hP 0 rfl rfl 4 (by decide) (hts _ wdt1_60) (fun _ h9 => h9) rfl dK2_has_6 ?_
    refine lv_icmp_ge (tgt := 16) hx hb dK2_has_9 (by decide) (fun hc => ?_) (fun hc => ?_)
    · replace hm := ift hm hc
      refine lv_iconst (v := 0) hx hb dK2_has_16 (by decide) ?_
      replace hm := Option.some.inj hm
      subst hm
      exact k_retz hx hb hr hlocks rfl hP hD hS dK2_has_17
    · replace hm := iff_ hm hc
      refine lv_iconst (v := 1) hx hb dK2_has_12 (by decide) ?_
      refine lv_goto (tgt := 17) hx hb dK2_has_13 (by decide) ?_
      replace hm := Option.some.inj hm
      subst hm
      exact k_retz hx hb hr hlocks rfl hP hD hS dK2_has_17
def mK2_fails (rki : Nat → Int32) (rta : Nat → Int32) (rpr : Nat → Int32) (rnu : Nat → Int32) (tob : Nat → Int32) (tme : Nat → Int32) (v2 : Int32) (v3 : Int32) : Option (Int32) :=
  bd1 (rd rta 10 v2) fun x1 => bd1 (mK1_isMember tme v3 x1) fun x2 => if x2 = 0 then
  (some 0)
  else
  (bd1 (mK2_holds rki rpr rnu tob tme v2 v3) fun x4 => if x4 = 0 then
    (some 1)
    else
    (some 0))
abbrev rmK2_fails : Room := { frames := 2, cells := 0, slots := 0, locals := 47 }
set_option maxHeartbeats 4000000 in
set_option maxRecDepth 100000 in
theorem kK2_fails (l : Launch) (D : va_G) (cI cZ cB cC : ClassId) (sz : Nat) (ra : Nat) (ra1 : Nat) (ra2 : Nat) (ra3 : Nat) (ra4 : Nat) (ta : Nat) (ta1 : Nat) (ta2 : Nat) (ta3 : Nat) (rn : Int32) (rki : Nat → Int32) (rta : Nat → Int32) (rpr : Nat → Int32) (rnu : Nat → Int32) (tso : Int32) (tob : Nat → Int32) (tme : Nat → Int32) (twi : Nat → Int32) (v2 : Int32) (v3 : Int32) (r0 : Int32) (hm : mK2_fails rki rta rpr rnu tob tme v2 v3 = some r0) : Met l yK2_fails wsK2_fails rmK2_fails (va_Pc [.ref ra, .ref ta, .int v2, .int v3] (Pr D (tyL cI cZ cB cC) sz (wRT ra ra1 ra2 ra3 ra4 ta ta1 ta2 ta3 cI cZ cB cC rn rki rta rpr rnu tso tob tme twi))) (QI D (va_A (wRT ra ra1 ra2 ra3 ra4 ta ta1 ta2 ta3 cI cZ cB cC rn rki rta rpr rnu tso tob tme twi) sz) r0 (wRT ra ra1 ra2 ra3 ra4 ta ta1 ta2 ta3 cI cZ cB cC rn rki rta rpr rnu tso tob tme twi)) 0 0 (va_A (wRT ra ra1 ra2 ra3 ra4 ta ta1 ta2 ta3 cI cZ cB cC rn rki rta rpr rnu tso tob tme twi) sz) := by
  refine Met.ofW (cc := cK2_fails) (maxL := 4) (ret := (some .boolean)) (by decide) rfl ?_
  intro p e s m args below meth c s₁ B hml hv
  obtain ⟨rfl, hsz, hP, hK, hD0, hN⟩ := hv
  have hx := B.exec
  have hb := B.bytes
  have hr := B.returns
  have hts := htsA (atoms_spec (ws := wsK2_fails) B.pre)
  have hown : s.vm.findClass RK2 = some m.cls := findClass_of_methodNamed B.named
  have hlocks := B.notSynchronized
  subst hsz
  have hD := hD0.self (sz := s.heap.size)
  generalize hAe : va_A (wRT ra ra1 ra2 ra3 ra4 ta ta1 ta2 ta3 cI cZ cB cC rn rki rta rpr rnu tso tob tme twi) s.heap.size = A at hD ⊢
  have hA : ∀ q : Nat, s.heap.size ≤ q → A q := fun q h => by rw [← hAe]; exact Or.inr h
  refine kstart (A := A) hP (fun H hP hS => ?_)
  have hl := lv_entry ([.ref ra, .ref ta, .int v2, .int v3]) (n := 4) (Nat.le_of_ble_eq_true rfl)
  rw [lg_entry_eq]
  generalize (lg_sl ([.ref ra, .ref ta, .int v2, .int v3]) ++ List.replicate (4 - (lg_sl ([.ref ra, .ref ta, .int v2, .int v3])).length) Slot.unset).toArray = ls at hl ⊢
  have hl : lv_has ls 4 [(0, .ref ra), (1, .ref ta), (2, .int v2), (3, .int v3)] := hl
  unfold mK2_fails at hm
  refine lv_aload_n hx hb dK2_fails_0 rfl (lv_at hl 1 rfl) ?_
  refine lv_iload_n hx hb dK2_fails_1 rfl (lv_at hl 3 rfl) ?_
  refine lv_aload_n hx hb dK2_fails_2 rfl (lv_at hl 0 rfl) ?_
  refine va_get (D := D) (ci := 2) (v := .ref ra2) (C := RK2) (T := TK2) (N := 5) hx hb hts inK2 hown hK hP 0 rfl rfl 1 (by decide) (hts _ wdt1_54) (fun _ h9 => h9) rfl dK2_fails_3 ?_
  refine lv_iload_n hx hb dK2_fails_6 rfl (lv_at hl 2 rfl) ?_
  obtain ⟨x1, ex1, hm⟩ := bd1_s hm
  obtain ⟨hix1, ex1⟩ := rd_s ex1
  refine va_iald hx hb hK hP 2 0 rfl rfl hix1 dK2_fails_7 ?_
  refine topi ex1 ?_
  obtain ⟨x2, ec3, hm⟩ := bd1_s hm
  have hPc := hP.sub (ws' := (wT ta ta1 ta2 ta3 cI cZ cB cC tso tob tme twi)) [5, 6, 7, 8] rfl
  have hDc := hD.sub (ws' := (wT ta ta1 ta2 ta3 cI cZ cB cC tso tob tme twi)) [5, 6, 7, 8] (by decide) rfl
  refine k_calli (wr := [(ra, .inr (2, [.ref ra1, .ref ra2, .ref ra3, .ref ra4, .int rn])), (ra1, .inl (cI, 10, .inl rki)), (ra2, .inl (cI, 10, .inl rta)), (ra3, .inl (cI, 10, .inl rpr)), (ra4, .inl (cI, 10, .inl rnu))]) (w1 := (wT ta ta1 ta2 ta3 cI cZ cB cC tso tob tme twi)) (ws' := (wRT ra ra1 ra2 ra3 ra4 ta ta1 ta2 ta3 cI cZ cB cC rn rki rta rpr rnu tso tob tme twi)) (va_runV (As := [.int v3, .int x1]) (rest := []) ⟨hx, hb, hml, hown, hts⟩ (kK1_isMember l D cI cZ cB cC H.size ta ta1 ta2 ta3 tso tob tme twi v3 x1 x2 ec3) (cwV 2 hts (gdV wdt2_87 wdt2_47 wdt2_48 wdt1_2 gkK1_isMember) rfl rfl rfl (by decide +kernel) ⟨Nat.le_of_ble_eq_true rfl, Nat.le_of_ble_eq_true rfl⟩) ⟨Pr_blind, va_recv hK hPc (ci := 1) (q0 := 0) rfl rfl, fun U hU hW => ⟨rfl, Pr_at hK hN hPc hDc hU hW⟩⟩ rfl rfl hl.1 rfl (lv_room (Nat.le_of_ble_eq_true rfl)) dK2_fails_8 ⟨Nat.le_of_ble_eq_true rfl, Nat.le_of_ble_eq_true rfl⟩) hP hD hS hA [5, 6, 7, 8] [0, 1, 2, 3, 4] [0, 1, 2, 3, 4, 5, 6, 7, 8] rfl rfl (by decide) (by decide) (by decide) rfl (fun H locs hP hD hS => ?_)
  refine lv_if_eq (tgt := 28) hx hb dK2_fails_11 (by decide) (fun hc => ?_) (fun hc => ?_)
  · replace hm := ift hm hc
    refine lv_iconst (v := 0) hx hb dK2_fails_28 (by decide) ?_
    replace hm := Option.some.inj hm
    subst hm
    exact k_retz hx hb hr hlocks rfl hP hD hS dK2_fails_29
  · replace hm := iff_ hm hc
    refine lv_aload_n hx hb dK2_fails_14 rfl (lv_at hl 0 rfl) ?_
    refine lv_aload_n hx hb dK2_fails_15 rfl (lv_at hl 1 rfl) ?_
    refine lv_iload_n hx hb dK2_fails_16 rfl (lv_at hl 2 rfl) ?_
    refine lv_iload_n hx hb dK2_fails_17 rfl (lv_at hl 3 rfl) ?_
    obtain ⟨x4, ec5, hm⟩ := bd1_s hm
    have hPc := hP.sub (ws' := (wRT ra ra1 ra2 ra3 ra4 ta ta1 ta2 ta3 cI cZ cB cC rn rki rta rpr rnu tso tob tme twi)) [0, 1, 2, 3, 4, 5, 6, 7, 8] rfl
    have hDc := hD.sub (ws' := (wRT ra ra1 ra2 ra3 ra4 ta ta1 ta2 ta3 cI cZ cB cC rn rki rta rpr rnu tso tob tme twi)) [0, 1, 2, 3, 4, 5, 6, 7, 8] (by decide) rfl
    refine k_calli (wr := []) (w1 := (wRT ra ra1 ra2 ra3 ra4 ta ta1 ta2 ta3 cI cZ cB cC rn rki rta rpr rnu tso tob tme twi)) (ws' := (wRT ra ra1 ra2 ra3 ra4 ta ta1 ta2 ta3 cI cZ cB cC rn rki rta rpr rnu tso tob tme twi)) (va_runV (As := [.ref ta, .int v2, .int v3]) (rest := []) ⟨hx, hb, hml, hown, hts⟩ (kK2_holds l D cI cZ cB cC H.size ra ra1 ra2 ra3 ra4 ta ta1 ta2 ta3 rn rki rta rpr rnu tso tob tme twi v2 v3 x4 ec5) (cwV 3 hts (gdV wdt2_18 wdt2_20 wds1_2 wdt1_3 gkK2_holds) rfl rfl rfl (by decide +kernel) ⟨Nat.le_of_ble_eq_true rfl, Nat.le_of_ble_eq_true rfl⟩) ⟨Pr_blind, va_recv hK hPc (ci := 2) (q0 := 0) rfl rfl, fun U hU hW => ⟨rfl, Pr_at hK hN hPc hDc hU hW⟩⟩ rfl rfl hl.1 rfl (lv_room (Nat.le_of_ble_eq_true rfl)) dK2_fails_18 ⟨Nat.le_of_ble_eq_true rfl, Nat.le_of_ble_eq_true rfl⟩) hP hD hS hA [0, 1, 2, 3, 4, 5, 6, 7, 8] [] [0, 1, 2, 3, 4, 5, 6, 7, 8] rfl rfl (by decide) (by decide) (by decide) rfl (fun H locs hP hD hS => ?_)
    refine lv_if_ne (tgt := 28) hx hb dK2_fails_21 (by decide) (fun hc => ?_) (fun hc => ?_)
    · replace hm := iff_ hm hc
      refine lv_iconst (v := 0) hx hb dK2_fails_28 (by decide) ?_
      replace hm := Option.some.inj hm
      subst hm
      exact k_retz hx hb hr hlocks rfl hP hD hS dK2_fails_29
    · replace hm := ift hm hc
      refine lv_iconst (v := 1) hx hb dK2_fails_24 (by decide) ?_
      refine lv_goto (tgt := 29) hx hb dK2_fails_25 (by decide) ?_
      replace hm := Option.some.inj hm
      subst hm
      exact k_retz hx hb hr hlocks rfl hP hD hS dK2_fails_29
