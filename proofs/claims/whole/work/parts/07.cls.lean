def mK1_classesOf_A12 (i2x12 : Int32) : Option (Int32) :=
  some i2x12
def mK1_classesOf_B12 (tob : Nat → Int32) (kx12 : Int32 → Option (Int32)) (rc12 : Int32 → Int32 → Int32 → Option (Int32)) (i2l12 : Int32) (i3l12 : Int32) (i4l12 : Int32) : Option (Int32) :=
  if 12 ≤ i4l12 then
  (kx12 i2l12)
  else
  (if i3l12 = i2l12 then
    (kx12 i2l12)
    else
    (bd1 (mK1_least (i2l12 &&& (i3l12 ^^^ ((-1))))) fun x3 => bd1 (some (i3l12 ||| (1 <<< (x3 &&& 31)))) fun x5 => bd1 (mK1_objectsOf tob x3 1) fun x6 => bd1 (some (i2l12 ||| x6)) fun x8 => bd1 (some (i4l12 + 1)) fun x9 => rc12 x8 x5 x9))
def mK1_classesOf_L12 (tob : Nat → Int32) (kx12 : Int32 → Option (Int32)) : Nat → Int32 → Int32 → Int32 → Option (Int32)
  | 0, _, _, _ => none
  | n + 1, i2l12, i3l12, i4l12 => mK1_classesOf_B12 tob kx12 (mK1_classesOf_L12 tob kx12 n) i2l12 i3l12 i4l12
def mK1_classesOf (tob : Nat → Int32) (v1 : Int32) : Option (Int32) :=
  bd1 (mK1_objectsOf tob v1 0) fun x1 => mK1_classesOf_L12 tob (mK1_classesOf_A12) 5000 x1 0 0
abbrev rmK1_classesOf : Room := { frames := 2, cells := 0, slots := 0, locals := 41 }
set_option maxHeartbeats 4000000 in
set_option maxRecDepth 100000 in
theorem kK1_classesOf (l : Launch) (D : va_G) (cI cZ cB cC : ClassId) (sz : Nat) (ta : Nat) (ta1 : Nat) (ta2 : Nat) (ta3 : Nat) (tso : Int32) (tob : Nat → Int32) (tme : Nat → Int32) (twi : Nat → Int32) (v1 : Int32) (r0 : Int32) (hm : mK1_classesOf tob v1 = some r0) : Met l yK1_classesOf wsK1_classesOf rmK1_classesOf (va_Pc [.ref ta, .int v1] (Pr D (tyL cI cZ cB cC) sz (wT ta ta1 ta2 ta3 cI cZ cB cC tso tob tme twi))) (QI D (va_A (wT ta ta1 ta2 ta3 cI cZ cB cC tso tob tme twi) sz) r0 (wT ta ta1 ta2 ta3 cI cZ cB cC tso tob tme twi)) 0 0 (va_A (wT ta ta1 ta2 ta3 cI cZ cB cC tso tob tme twi) sz) := by
  refine Met.ofW (cc := cK1_classesOf) (maxL := 6) (ret := (some .int)) (by decide) rfl ?_
  intro p e s m args below meth c s₁ B hml hv
  obtain ⟨rfl, hsz, hP, hK, hD0, hN⟩ := hv
  have hx := B.exec
  have hb := B.bytes
  have hr := B.returns
  have hts := htsA (atoms_spec (ws := wsK1_classesOf) B.pre)
  have hown : s.vm.findClass RK1 = some m.cls := findClass_of_methodNamed B.named
  have hlocks := B.notSynchronized
  subst hsz
  have hD := hD0.self (sz := s.heap.size)
  generalize hAe : va_A (wT ta ta1 ta2 ta3 cI cZ cB cC tso tob tme twi) s.heap.size = A at hD ⊢
  have hA : ∀ q : Nat, s.heap.size ≤ q → A q := fun q h => by rw [← hAe]; exact Or.inr h
  refine kstart (A := A) hP (fun H hP hS => ?_)
  have hl := lv_entry ([.ref ta, .int v1]) (n := 6) (Nat.le_of_ble_eq_true rfl)
  rw [lg_entry_eq]
  generalize (lg_sl ([.ref ta, .int v1]) ++ List.replicate (6 - (lg_sl ([.ref ta, .int v1])).length) Slot.unset).toArray = ls at hl ⊢
  have hl : lv_has ls 6 [(0, .ref ta), (1, .int v1)] := hl
  unfold mK1_classesOf at hm
  refine lv_aload_n hx hb dK1_classesOf_0 rfl (lv_at hl 0 rfl) ?_
  refine lv_iload_n hx hb dK1_classesOf_1 rfl (lv_at hl 1 rfl) ?_
  refine lv_iconst (v := 0) hx hb dK1_classesOf_2 (by decide) ?_
  obtain ⟨x1, ec2, hm⟩ := bd1_s hm
  have hPc := hP.sub (ws' := (wT ta ta1 ta2 ta3 cI cZ cB cC tso tob tme twi)) [0, 1, 2, 3] rfl
  have hDc := hD.sub (ws' := (wT ta ta1 ta2 ta3 cI cZ cB cC tso tob tme twi)) [0, 1, 2, 3] (by decide) rfl
  refine k_calli (wr := []) (w1 := (wT ta ta1 ta2 ta3 cI cZ cB cC tso tob tme twi)) (ws' := (wT ta ta1 ta2 ta3 cI cZ cB cC tso tob tme twi)) (va_runV (As := [.int v1, .int 0]) (rest := []) ⟨hx, hb, hml, hown, hts⟩ (kK1_objectsOf l D cI cZ cB cC H.size ta ta1 ta2 ta3 tso tob tme twi v1 0 x1 ec2) (cwV 2 hts (gdV wdt1_195 wdt1_196 wdt1_197 wdt1_2 gkK1_objectsOf) rfl rfl rfl (by decide +kernel) ⟨Nat.le_of_ble_eq_true rfl, Nat.le_of_ble_eq_true rfl⟩) ⟨Pr_blind, va_recv hK hPc (ci := 1) (q0 := 0) rfl rfl, fun U hU hW => ⟨rfl, Pr_at hK hN hPc hDc hU hW⟩⟩ rfl rfl hl.1 rfl (lv_room (Nat.le_of_ble_eq_true rfl)) dK1_classesOf_3 ⟨Nat.le_of_ble_eq_true rfl, Nat.le_of_ble_eq_true rfl⟩) hP hD hS hA [0, 1, 2, 3] [] [0, 1, 2, 3] rfl rfl (by decide) (by decide) (by decide) rfl (fun H locs hP hD hS => ?_)
  refine lv_istore_n (lv' := [(2, .int x1), (0, .ref ta), (1, .int v1)]) hx hb dK1_classesOf_6 rfl hl (by decide) rfl (fun ls hl => ?_)
  refine lv_iconst (v := 0) hx hb dK1_classesOf_7 (by decide) ?_
  refine lv_istore_n (lv' := [(3, .int 0), (2, .int x1), (0, .ref ta), (1, .int v1)]) hx hb dK1_classesOf_8 rfl hl (by decide) rfl (fun ls hl => ?_)
  refine lv_iconst (v := 0) hx hb dK1_classesOf_9 (by decide) ?_
  refine lv_istore (lv' := [(4, .int 0), (3, .int 0), (2, .int x1), (0, .ref ta), (1, .int v1)]) hx hb dK1_classesOf_10 hl (by decide) rfl (fun ls hl => ?_)
  have lx12 : ∀ (i2x12 : Int32) (H : Heap) (locs : List Loc) (ls : Array Slot), mK1_classesOf_A12 i2x12 = some r0 → va_P D vwCl (wT ta ta1 ta2 ta3 cI cZ cB cC tso tob tme twi) H → va_D A (wT ta ta1 ta2 ta3 cI cZ cB cC tso tob tme twi) → va_S A s.heap H locs → lv_has ls 6 [(2, .int i2x12)] → W p l e (headSpec wsK1_classesOf rmK1_classesOf).room s m ([.ref ta, .int v1] : List Value).toArray below meth c H locs 0 0 (MQ below (QI D A r0 (wT ta ta1 ta2 ta3 cI cZ cB cC tso tob tme twi)) ([.ref ta, .int v1] : List Value).toArray s 0 0 A) (F0 m 57 ls []) := by
    intro i2x12 H locs ls hm hP hD hS hl
    unfold mK1_classesOf_A12 at hm
    refine lv_iload_n hx hb dK1_classesOf_57 rfl (lv_at hl 0 rfl) ?_
    replace hm := Option.some.inj hm
    subst hm
    exact k_reti hx hb hr hlocks hP hD hS dK1_classesOf_58
  have lp12 : ∀ (n12 : Nat) (i2l12 : Int32) (i3l12 : Int32) (i4l12 : Int32) (H : Heap) (locs : List Loc) (ls : Array Slot), mK1_classesOf_L12 tob (mK1_classesOf_A12) n12 i2l12 i3l12 i4l12 = some r0 → va_P D vwCl (wT ta ta1 ta2 ta3 cI cZ cB cC tso tob tme twi) H → va_D A (wT ta ta1 ta2 ta3 cI cZ cB cC tso tob tme twi) → va_S A s.heap H locs → lv_has ls 6 [(4, .int i4l12), (3, .int i3l12), (2, .int i2l12), (0, .ref ta)] → W p l e (headSpec wsK1_classesOf rmK1_classesOf).room s m ([.ref ta, .int v1] : List Value).toArray below meth c H locs 0 0 (MQ below (QI D A r0 (wT ta ta1 ta2 ta3 cI cZ cB cC tso tob tme twi)) ([.ref ta, .int v1] : List Value).toArray s 0 0 A) (F0 m 12 ls []) := by
    intro n12
    induction n12 with
    | zero => intro i2l12 i3l12 i4l12 H locs ls hm; exact nomatch (show none = _ from hm)
    | succ n12 ih12 =>
      intro i2l12 i3l12 i4l12 H locs ls hm hP hD hS hl
      replace hm : mK1_classesOf_B12 tob (mK1_classesOf_A12) (mK1_classesOf_L12 tob (mK1_classesOf_A12) n12) i2l12 i3l12 i4l12 = some r0 := hm
      unfold mK1_classesOf_B12 at hm
      refine lv_iload hx hb dK1_classesOf_12 (lv_at hl 0 rfl) ?_
      refine lv_bipush (v := 12) hx hb dK1_classesOf_14 (by decide) ?_
      refine lv_icmp_ge (tgt := 57) hx hb dK1_classesOf_16 (by decide) (fun hc => ?_) (fun hc => ?_)
      · replace hm := ift hm hc
        exact lx12 i2l12 _ _ _ hm hP hD hS (lv_sub hl [2] rfl)
      · replace hm := iff_ hm hc
        refine lv_iload_n hx hb dK1_classesOf_19 rfl (lv_at hl 1 rfl) ?_
        refine lv_iload_n hx hb dK1_classesOf_20 rfl (lv_at hl 2 rfl) ?_
        refine lv_icmp_eq (tgt := 57) hx hb dK1_classesOf_21 (by decide) (fun hc => ?_) (fun hc => ?_)
        · replace hm := ift hm hc
          exact lx12 i2l12 _ _ _ hm hP hD hS (lv_sub hl [2] rfl)
        · replace hm := iff_ hm hc
          refine lv_iload_n hx hb dK1_classesOf_24 rfl (lv_at hl 2 rfl) ?_
          refine lv_iload_n hx hb dK1_classesOf_25 rfl (lv_at hl 1 rfl) ?_
          refine lv_iconst (v := (-1)) hx hb dK1_classesOf_26 (by decide) ?_
          refine lv_ixor hx hb dK1_classesOf_27 ?_
          refine lv_iand hx hb dK1_classesOf_28 ?_
          obtain ⟨x3, ec4, hm⟩ := bd1_s hm
          have hPc : va_P D vwCl [] H := va_P0
          have hDc : va_D A [] := va_D0
          refine k_calli0 (va_runS (As := [.int (i2l12 &&& (i3l12 ^^^ ((-1))))]) (rest := []) ⟨hx, hb, hml, hown, hts⟩ (kK1_least l D cI cZ cB cC H.size (i2l12 &&& (i3l12 ^^^ ((-1)))) x3 ec4) (va_cwS 1 hts (gdS wdt1_220 wdt1_221 wdt1_2 gkK1_least) rfl rfl rfl (by decide +kernel) ⟨Nat.le_of_ble_eq_true rfl, Nat.le_of_ble_eq_true rfl⟩) ⟨Pr_blind, fun U hU hW => ⟨rfl, Pr_at hK hN hPc hDc hU hW⟩⟩ rfl rfl hl.1 rfl (lv_room (Nat.le_of_ble_eq_true rfl)) dK1_classesOf_29 ⟨Nat.le_of_ble_eq_true rfl, Nat.le_of_ble_eq_true rfl⟩) hP hD hS hA (fun H locs hP hD hS => ?_)
          refine lv_istore (lv' := [(5, .int x3), (4, .int i4l12), (3, .int i3l12), (2, .int i2l12), (0, .ref ta)]) hx hb dK1_classesOf_32 hl (by decide) rfl (fun ls hl => ?_)
          refine lv_iload_n hx hb dK1_classesOf_34 rfl (lv_at hl 2 rfl) ?_
          refine lv_iconst (v := 1) hx hb dK1_classesOf_35 (by decide) ?_
          refine lv_iload hx hb dK1_classesOf_36 (lv_at hl 0 rfl) ?_
          refine lv_ishl hx hb dK1_classesOf_38 ?_
          refine lv_ior hx hb dK1_classesOf_39 ?_
          obtain ⟨x5, ex5, hm⟩ := bd1_s hm
          refine topi (Option.some.inj ex5) ?_
          refine lv_istore_n (lv' := [(3, .int x5), (5, .int x3), (4, .int i4l12), (2, .int i2l12), (0, .ref ta)]) hx hb dK1_classesOf_40 rfl hl (by decide) rfl (fun ls hl => ?_)
          refine lv_iload_n hx hb dK1_classesOf_41 rfl (lv_at hl 3 rfl) ?_
          refine lv_aload_n hx hb dK1_classesOf_42 rfl (lv_at hl 4 rfl) ?_
          refine lv_iload hx hb dK1_classesOf_43 (lv_at hl 1 rfl) ?_
          refine lv_iconst (v := 1) hx hb dK1_classesOf_45 (by decide) ?_
          obtain ⟨x6, ec7, hm⟩ := bd1_s hm
          have hPc := hP.sub (ws' := (wT ta ta1 ta2 ta3 cI cZ cB cC tso tob tme twi)) [0, 1, 2, 3] rfl
          have hDc := hD.sub (ws' := (wT ta ta1 ta2 ta3 cI cZ cB cC tso tob tme twi)) [0, 1, 2, 3] (by decide) rfl
          refine k_calli (wr := []) (w1 := (wT ta ta1 ta2 ta3 cI cZ cB cC tso tob tme twi)) (ws' := (wT ta ta1 ta2 ta3 cI cZ cB cC tso tob tme twi)) (va_runV (As := [.int x3, .int 1]) (rest := [.int i2l12]) ⟨hx, hb, hml, hown, hts⟩ (kK1_objectsOf l D cI cZ cB cC H.size ta ta1 ta2 ta3 tso tob tme twi x3 1 x6 ec7) (cwV 2 hts (gdV wdt1_195 wdt1_196 wdt1_197 wdt1_2 gkK1_objectsOf) rfl rfl rfl (by decide +kernel) ⟨Nat.le_of_ble_eq_true rfl, Nat.le_of_ble_eq_true rfl⟩) ⟨Pr_blind, va_recv hK hPc (ci := 1) (q0 := 0) rfl rfl, fun U hU hW => ⟨rfl, Pr_at hK hN hPc hDc hU hW⟩⟩ rfl rfl hl.1 rfl (lv_room (Nat.le_of_ble_eq_true rfl)) dK1_classesOf_46 ⟨Nat.le_of_ble_eq_true rfl, Nat.le_of_ble_eq_true rfl⟩) hP hD hS hA [0, 1, 2, 3] [] [0, 1, 2, 3] rfl rfl (by decide) (by decide) (by decide) rfl (fun H locs hP hD hS => ?_)
          refine lv_ior hx hb dK1_classesOf_49 ?_
          obtain ⟨x8, ex8, hm⟩ := bd1_s hm
          refine topi (Option.some.inj ex8) ?_
          refine lv_istore_n (lv' := [(2, .int x8), (3, .int x5), (5, .int x3), (4, .int i4l12), (0, .ref ta)]) hx hb dK1_classesOf_50 rfl hl (by decide) rfl (fun ls hl => ?_)
          obtain ⟨x9, ex9, hm⟩ := bd1_s hm
          refine lv_iinc (v := x9) (lv' := [(4, .int x9), (2, .int x8), (3, .int x5), (5, .int x3), (0, .ref ta)]) hx hb dK1_classesOf_51 hl (k := 3) rfl (by rw [← Option.some.inj ex9]; rfl) (by decide) rfl (fun ls hl => ?_)
          refine lv_goto (tgt := 12) hx hb dK1_classesOf_54 (by decide) ?_
          exact ih12 x8 x5 x9 _ _ _ hm hP hD hS (lv_sub hl [0, 2, 1, 4] rfl)
  exact lp12 5000 x1 0 0 _ _ _ hm hP hD hS (lv_sub hl [0, 1, 2, 3] rfl)
def mK1_sortIntoClasses_A18 (tmex18 : Nat → Int32) : Option (Int32 × (Nat → Int32)) :=
  some (1, tmex18)
def mK1_sortIntoClasses_A32 (i1l18 : Int32) (rc18 : Int32 → (Nat → Int32) → (Option (Int32 × (Nat → Int32)))) (tmex32 : Nat → Int32) : Option (Int32 × (Nat → Int32)) :=
  bd1 (some (i1l18 + 1)) fun x5 => rc18 x5 tmex32
def mK1_sortIntoClasses_B32 (i1l18 : Int32) (x3 : Int32) (kx32 : (Nat → Int32) → (Option (Int32 × (Nat → Int32)))) (rc32 : Int32 → (Nat → Int32) → (Option (Int32 × (Nat → Int32)))) (i3l32 : Int32) (tmel32 : Nat → Int32) : Option (Int32 × (Nat → Int32)) :=
  if 12 ≤ i3l32 then
  (kx32 tmel32)
  else
  (if x3 = 0 then
    (kx32 tmel32)
    else
    (bd1 (mK0_hasMember x3 i3l32) fun x6 => if x6 = 0 then
      (bd1 (some (i3l32 + 1)) fun x8 => rc32 x8 tmel32)
      else
      (bd1 (rd tmel32 12 i3l32) fun x9 => bd1 (wrt tmel32 12 i3l32 (x9 ||| (1 <<< (i1l18 &&& 31)))) fun x10 => bd1 (some (i3l32 + 1)) fun x11 => rc32 x11 x10)))
def mK1_sortIntoClasses_L32 (i1l18 : Int32) (x3 : Int32) (kx32 : (Nat → Int32) → (Option (Int32 × (Nat → Int32)))) : Nat → Int32 → (Nat → Int32) → (Option (Int32 × (Nat → Int32)))
  | 0, _, _ => none
  | n + 1, i3l32, tmel32 => mK1_sortIntoClasses_B32 i1l18 x3 kx32 (mK1_sortIntoClasses_L32 i1l18 x3 kx32 n) i3l32 tmel32
def mK1_sortIntoClasses_B18 (tob : Nat → Int32) (kx18 : (Nat → Int32) → (Option (Int32 × (Nat → Int32)))) (rc18 : Int32 → (Nat → Int32) → (Option (Int32 × (Nat → Int32)))) (i1l18 : Int32) (tmel18 : Nat → Int32) : Option (Int32 × (Nat → Int32)) :=
  if 12 ≤ i1l18 then
  (kx18 tmel18)
  else
  (bd1 (mK1_classesOf tob i1l18) fun x3 => mK1_sortIntoClasses_L32 i1l18 x3 (mK1_sortIntoClasses_A32 i1l18 rc18) 5000 0 tmel18)
def mK1_sortIntoClasses_L18 (tob : Nat → Int32) (kx18 : (Nat → Int32) → (Option (Int32 × (Nat → Int32)))) : Nat → Int32 → (Nat → Int32) → (Option (Int32 × (Nat → Int32)))
  | 0, _, _ => none
  | n + 1, i1l18, tmel18 => mK1_sortIntoClasses_B18 tob kx18 (mK1_sortIntoClasses_L18 tob kx18 n) i1l18 tmel18
def mK1_sortIntoClasses (tso : Int32) (tob : Nat → Int32) (tme : Nat → Int32) : Option (Int32 × (Nat → Int32)) :=
  if tso = 0 then
  (bd1 (mJ6_fill_aIIV tme 0) fun x1 => mK1_sortIntoClasses_L18 tob (mK1_sortIntoClasses_A18) 5000 0 x1)
  else
  (some (tso, tme))
abbrev rmK1_sortIntoClasses : Room := { frames := 3, cells := 0, slots := 0, locals := 66 }
set_option maxHeartbeats 4000000 in
set_option maxRecDepth 100000 in
theorem kK1_sortIntoClasses (l : Launch) (D : va_G) (cI cZ cB cC : ClassId) (sz : Nat) (ta : Nat) (ta1 : Nat) (ta2 : Nat) (ta3 : Nat) (tso : Int32) (tob : Nat → Int32) (tme : Nat → Int32) (twi : Nat → Int32) (tso_r : Int32) (tme_r : Nat → Int32) (hm : mK1_sortIntoClasses tso tob tme = some (tso_r, tme_r)) : Met l yK1_sortIntoClasses wsK1_sortIntoClasses rmK1_sortIntoClasses (va_Pc [.ref ta] (Pr D (tyL cI cZ cB cC) sz (wT ta ta1 ta2 ta3 cI cZ cB cC tso tob tme twi))) (QV D (va_A (wT ta ta1 ta2 ta3 cI cZ cB cC tso tob tme twi) sz) (wT ta ta1 ta2 ta3 cI cZ cB cC tso_r tob tme_r twi)) 0 0 (va_A (wT ta ta1 ta2 ta3 cI cZ cB cC tso tob tme twi) sz) := by
  refine Met.ofW (cc := cK1_sortIntoClasses) (maxL := 4) (ret := none) (by decide) rfl ?_
  intro p e s m args below meth c s₁ B hml hv
  obtain ⟨rfl, hsz, hP, hK, hD0, hN⟩ := hv
  have hx := B.exec
  have hb := B.bytes
  have hr := B.returns
  have hts := htsA (atoms_spec (ws := wsK1_sortIntoClasses) B.pre)
  have hown : s.vm.findClass RK1 = some m.cls := findClass_of_methodNamed B.named
  have hlocks := B.notSynchronized
  subst hsz
  have hD := hD0.self (sz := s.heap.size)
  generalize hAe : va_A (wT ta ta1 ta2 ta3 cI cZ cB cC tso tob tme twi) s.heap.size = A at hD ⊢
  have hA : ∀ q : Nat, s.heap.size ≤ q → A q := fun q h => by rw [← hAe]; exact Or.inr h
  refine kstart (A := A) hP (fun H hP hS => ?_)
  have hl := lv_entry ([.ref ta]) (n := 4) (Nat.le_of_ble_eq_true rfl)
  rw [lg_entry_eq]
  generalize (lg_sl ([.ref ta]) ++ List.replicate (4 - (lg_sl ([.ref ta])).length) Slot.unset).toArray = ls at hl ⊢
  have hl : lv_has ls 4 [(0, .ref ta)] := hl
  unfold mK1_sortIntoClasses at hm
  refine lv_aload_n hx hb dK1_sortIntoClasses_0 rfl (lv_at hl 0 rfl) ?_
  refine va_get (D := D) (ci := 1) (v := .int tso) (C := RK1) (T := TK1) (N := 4) hx hb hts inK1 hown hK hP 0 rfl rfl 3 (by decide) (hts _ wdt1_35) (fun _ h9 => h9) rfl dK1_sortIntoClasses_1 ?_
  refine lv_if_eq (tgt := 8) hx hb dK1_sortIntoClasses_4 (by decide) (fun hc => ?_) (fun hc => ?_)
  · replace hm := ift hm hc
    refine lv_aload_n hx hb dK1_sortIntoClasses_8 rfl (lv_at hl 0 rfl) ?_
    refine va_get (D := D) (ci := 1) (v := .ref ta2) (C := RK1) (T := TK1) (N := 4) hx hb hts inK1 hown hK hP 0 rfl rfl 1 (by decide) (hts _ wdt1_33) (fun _ h9 => h9) rfl dK1_sortIntoClasses_9 ?_
    refine lv_iconst (v := 0) hx hb dK1_sortIntoClasses_12 (by decide) ?_
    obtain ⟨x1, ec2, hm⟩ := bd1_s hm
    have hPc := hP.sub (ws' := (wA ta2 cI cZ cB cC tme)) [2] rfl
    have hDc := hD.sub (ws' := (wA ta2 cI cZ cB cC tme)) [2] (by decide) rfl
    refine k_callv (wr := [(ta, .inr (1, [.ref ta1, .ref ta2, .ref ta3, .int tso])), (ta1, .inl (cI, 72, .inl tob)), (ta3, .inl (cI, 12, .inl twi))]) (w1 := (wA ta2 cI cZ cB cC x1)) (ws' := (wT ta ta1 ta2 ta3 cI cZ cB cC tso tob x1 twi)) (va_runS (As := [.ref ta2, .int 0]) (rest := []) ⟨hx, hb, hml, hown, hts⟩ (kJ6_fill_aIIV l D cI cZ cB cC H.size ta2 tme 0 x1 ec2) (va_cwS 2 hts (gdS wdt1_213 wdt1_214 wdt1_11 gkJ6_fill_aIIV) rfl rfl rfl (by decide +kernel) ⟨Nat.le_of_ble_eq_true rfl, Nat.le_of_ble_eq_true rfl⟩) ⟨Pr_blind, fun U hU hW => ⟨rfl, Pr_at hK hN hPc hDc hU hW⟩⟩ rfl rfl hl.1 rfl (lv_room (Nat.le_of_ble_eq_true rfl)) dK1_sortIntoClasses_13 ⟨Nat.le_of_ble_eq_true rfl, Nat.le_of_ble_eq_true rfl⟩) hP hD hS hA [2] [0, 1, 3] [0, 1, 3, 2] rfl rfl (by decide) (by decide) (by decide) rfl (fun H locs hP hD hS => ?_)
    refine lv_iconst (v := 0) hx hb dK1_sortIntoClasses_16 (by decide) ?_
    refine lv_istore_n (lv' := [(1, .int 0), (0, .ref ta)]) hx hb dK1_sortIntoClasses_17 rfl hl (by decide) rfl (fun ls hl => ?_)
    have lx18 : ∀ (tmex18 : Nat → Int32) (H : Heap) (locs : List Loc) (ls : Array Slot), mK1_sortIntoClasses_A18 tmex18 = some (tso_r, tme_r) → va_P D vwCl (wT ta ta1 ta2 ta3 cI cZ cB cC tso tob tmex18 twi) H → va_D A (wT ta ta1 ta2 ta3 cI cZ cB cC tso tob tmex18 twi) → va_S A s.heap H locs → lv_has ls 4 [(0, .ref ta)] → W p l e (headSpec wsK1_sortIntoClasses rmK1_sortIntoClasses).room s m ([.ref ta] : List Value).toArray below meth c H locs 0 0 (MQ below (QV D A (wT ta ta1 ta2 ta3 cI cZ cB cC tso_r tob tme_r twi)) ([.ref ta] : List Value).toArray s 0 0 A) (F0 m 74 ls []) := by
      intro tmex18 H locs ls hm hP hD hS hl
      unfold mK1_sortIntoClasses_A18 at hm
      refine lv_aload_n hx hb dK1_sortIntoClasses_74 rfl (lv_at hl 0 rfl) ?_
      refine lv_iconst (v := 1) hx hb dK1_sortIntoClasses_75 (by decide) ?_
      refine va_put (D := D) (ci := 1) (v := .int 1) (ty := .boolean) (C := RK1) (T := TK1) (N := 4) hx hb hts inK1 tyK1 tyK1_ok nmK1 hown hK hP hD hS 0 rfl rfl 3 (by decide) (hts _ wdt1_35) (fun _ h9 => h9) rfl (by decide +kernel) rfl rfl (Nat.le_of_ble_eq_true rfl) dK1_sortIntoClasses_76 (fun H locs hP hD hS => ?_)
      have hP : va_P D vwCl (wT ta ta1 ta2 ta3 cI cZ cB cC 1 tob tmex18 twi) H := hP
      have hD : va_D A (wT ta ta1 ta2 ta3 cI cZ cB cC 1 tob tmex18 twi) := hD
      replace hm := Option.some.inj hm
      simp only [Prod.mk.injEq] at hm
      obtain ⟨rfl, rfl⟩ := hm
      exact k_retv hx hb hr hlocks hP hD hS dK1_sortIntoClasses_79
    have lp18 : ∀ (n18 : Nat) (i1l18 : Int32) (tmel18 : Nat → Int32) (H : Heap) (locs : List Loc) (ls : Array Slot), mK1_sortIntoClasses_L18 tob (mK1_sortIntoClasses_A18) n18 i1l18 tmel18 = some (tso_r, tme_r) → va_P D vwCl (wT ta ta1 ta2 ta3 cI cZ cB cC tso tob tmel18 twi) H → va_D A (wT ta ta1 ta2 ta3 cI cZ cB cC tso tob tmel18 twi) → va_S A s.heap H locs → lv_has ls 4 [(1, .int i1l18), (0, .ref ta)] → W p l e (headSpec wsK1_sortIntoClasses rmK1_sortIntoClasses).room s m ([.ref ta] : List Value).toArray below meth c H locs 0 0 (MQ below (QV D A (wT ta ta1 ta2 ta3 cI cZ cB cC tso_r tob tme_r twi)) ([.ref ta] : List Value).toArray s 0 0 A) (F0 m 18 ls []) := by
      intro n18
      induction n18 with
      | zero => intro i1l18 tmel18 H locs ls hm; exact nomatch (show none = _ from hm)
      | succ n18 ih18 =>
        intro i1l18 tmel18 H locs ls hm hP hD hS hl
        replace hm : mK1_sortIntoClasses_B18 tob (mK1_sortIntoClasses_A18) (mK1_sortIntoClasses_L18 tob (mK1_sortIntoClasses_A18) n18) i1l18 tmel18 = some (tso_r, tme_r) := hm
        unfold mK1_sortIntoClasses_B18 at hm
        refine lv_iload_n hx hb dK1_sortIntoClasses_18 rfl (lv_at hl 0 rfl) ?_
        refine lv_bipush (v := 12) hx hb dK1_sortIntoClasses_19 (by decide) ?_
        refine lv_icmp_ge (tgt := 74) hx hb dK1_sortIntoClasses_21 (by decide) (fun hc => ?_) (fun hc => ?_)
        · replace hm := ift hm hc
          exact lx18 tmel18 _ _ _ hm hP hD hS (lv_sub hl [1] rfl)
        · replace hm := iff_ hm hc
          refine lv_aload_n hx hb dK1_sortIntoClasses_24 rfl (lv_at hl 1 rfl) ?_
          refine lv_iload_n hx hb dK1_sortIntoClasses_25 rfl (lv_at hl 0 rfl) ?_
          obtain ⟨x3, ec4, hm⟩ := bd1_s hm
          have hPc := hP.sub (ws' := (wT ta ta1 ta2 ta3 cI cZ cB cC tso tob tmel18 twi)) [0, 1, 2, 3] rfl
          have hDc := hD.sub (ws' := (wT ta ta1 ta2 ta3 cI cZ cB cC tso tob tmel18 twi)) [0, 1, 2, 3] (by decide) rfl
          refine k_calli (wr := []) (w1 := (wT ta ta1 ta2 ta3 cI cZ cB cC tso tob tmel18 twi)) (ws' := (wT ta ta1 ta2 ta3 cI cZ cB cC tso tob tmel18 twi)) (va_runV (As := [.int i1l18]) (rest := []) ⟨hx, hb, hml, hown, hts⟩ (kK1_classesOf l D cI cZ cB cC H.size ta ta1 ta2 ta3 tso tob tmel18 twi i1l18 x3 ec4) (cwV 1 hts (gdV wdt1_216 wdt1_218 wds1_1 wdt1_2 gkK1_classesOf) rfl rfl rfl (by decide +kernel) ⟨Nat.le_of_ble_eq_true rfl, Nat.le_of_ble_eq_true rfl⟩) ⟨Pr_blind, va_recv hK hPc (ci := 1) (q0 := 0) rfl rfl, fun U hU hW => ⟨rfl, Pr_at hK hN hPc hDc hU hW⟩⟩ rfl rfl hl.1 rfl (lv_room (Nat.le_of_ble_eq_true rfl)) dK1_sortIntoClasses_26 ⟨Nat.le_of_ble_eq_true rfl, Nat.le_of_ble_eq_true rfl⟩) hP hD hS hA [0, 1, 2, 3] [] [0, 1, 2, 3] rfl rfl (by decide) (by decide) (by decide) rfl (fun H locs hP hD hS => ?_)
          refine lv_istore_n (lv' := [(2, .int x3), (1, .int i1l18), (0, .ref ta)]) hx hb dK1_sortIntoClasses_29 rfl hl (by decide) rfl (fun ls hl => ?_)
          refine lv_iconst (v := 0) hx hb dK1_sortIntoClasses_30 (by decide) ?_
          refine lv_istore_n (lv' := [(3, .int 0), (2, .int x3), (1, .int i1l18), (0, .ref ta)]) hx hb dK1_sortIntoClasses_31 rfl hl (by decide) rfl (fun ls hl => ?_)
          have lx32 : ∀ (tmex32 : Nat → Int32) (H : Heap) (locs : List Loc) (ls : Array Slot), mK1_sortIntoClasses_A32 i1l18 (mK1_sortIntoClasses_L18 tob (mK1_sortIntoClasses_A18) n18) tmex32 = some (tso_r, tme_r) → va_P D vwCl (wT ta ta1 ta2 ta3 cI cZ cB cC tso tob tmex32 twi) H → va_D A (wT ta ta1 ta2 ta3 cI cZ cB cC tso tob tmex32 twi) → va_S A s.heap H locs → lv_has ls 4 [(0, .ref ta), (1, .int i1l18)] → W p l e (headSpec wsK1_sortIntoClasses rmK1_sortIntoClasses).room s m ([.ref ta] : List Value).toArray below meth c H locs 0 0 (MQ below (QV D A (wT ta ta1 ta2 ta3 cI cZ cB cC tso_r tob tme_r twi)) ([.ref ta] : List Value).toArray s 0 0 A) (F0 m 68 ls []) := by
            intro tmex32 H locs ls hm hP hD hS hl
            unfold mK1_sortIntoClasses_A32 at hm
            obtain ⟨x5, ex5, hm⟩ := bd1_s hm
            refine lv_iinc (v := x5) (lv' := [(1, .int x5), (0, .ref ta)]) hx hb dK1_sortIntoClasses_68 hl (k := 1) rfl (by rw [← Option.some.inj ex5]; rfl) (by decide) rfl (fun ls hl => ?_)
            refine lv_goto (tgt := 18) hx hb dK1_sortIntoClasses_71 (by decide) ?_
            exact ih18 x5 tmex32 _ _ _ hm hP hD hS (lv_sub hl [0, 1] rfl)
          have lp32 : ∀ (n32 : Nat) (i3l32 : Int32) (tmel32 : Nat → Int32) (H : Heap) (locs : List Loc) (ls : Array Slot), mK1_sortIntoClasses_L32 i1l18 x3 (mK1_sortIntoClasses_A32 i1l18 (mK1_sortIntoClasses_L18 tob (mK1_sortIntoClasses_A18) n18)) n32 i3l32 tmel32 = some (tso_r, tme_r) → va_P D vwCl (wT ta ta1 ta2 ta3 cI cZ cB cC tso tob tmel32 twi) H → va_D A (wT ta ta1 ta2 ta3 cI cZ cB cC tso tob tmel32 twi) → va_S A s.heap H locs → lv_has ls 4 [(3, .int i3l32), (2, .int x3), (1, .int i1l18), (0, .ref ta)] → W p l e (headSpec wsK1_sortIntoClasses rmK1_sortIntoClasses).room s m ([.ref ta] : List Value).toArray below meth c H locs 0 0 (MQ below (QV D A (wT ta ta1 ta2 ta3 cI cZ cB cC tso_r tob tme_r twi)) ([.ref ta] : List Value).toArray s 0 0 A) (F0 m 32 ls []) := by
            intro n32
            induction n32 with
            | zero => intro i3l32 tmel32 H locs ls hm; exact nomatch (show none = _ from hm)
            | succ n32 ih32 =>
              intro i3l32 tmel32 H locs ls hm hP hD hS hl
              replace hm : mK1_sortIntoClasses_B32 i1l18 x3 (mK1_sortIntoClasses_A32 i1l18 (mK1_sortIntoClasses_L18 tob (mK1_sortIntoClasses_A18) n18)) (mK1_sortIntoClasses_L32 i1l18 x3 (mK1_sortIntoClasses_A32 i1l18 (mK1_sortIntoClasses_L18 tob (mK1_sortIntoClasses_A18) n18)) n32) i3l32 tmel32 = some (tso_r, tme_r) := hm
              unfold mK1_sortIntoClasses_B32 at hm
              refine lv_iload_n hx hb dK1_sortIntoClasses_32 rfl (lv_at hl 0 rfl) ?_
              refine lv_bipush (v := 12) hx hb dK1_sortIntoClasses_33 (by decide) ?_
              refine lv_icmp_ge (tgt := 68) hx hb dK1_sortIntoClasses_35 (by decide) (fun hc => ?_) (fun hc => ?_)
              · replace hm := ift hm hc
                exact lx32 tmel32 _ _ _ hm hP hD hS (lv_sub hl [3, 2] rfl)
              · replace hm := iff_ hm hc
                refine lv_iload_n hx hb dK1_sortIntoClasses_38 rfl (lv_at hl 1 rfl) ?_
                refine lv_if_eq (tgt := 68) hx hb dK1_sortIntoClasses_39 (by decide) (fun hc => ?_) (fun hc => ?_)
                · replace hm := ift hm hc
                  exact lx32 tmel32 _ _ _ hm hP hD hS (lv_sub hl [3, 2] rfl)
                · replace hm := iff_ hm hc
                  refine lv_iload_n hx hb dK1_sortIntoClasses_42 rfl (lv_at hl 1 rfl) ?_
                  refine lv_iload_n hx hb dK1_sortIntoClasses_43 rfl (lv_at hl 0 rfl) ?_
                  obtain ⟨x6, ec7, hm⟩ := bd1_s hm
                  have hPc : va_P D vwCl [] H := va_P0
                  have hDc : va_D A [] := va_D0
                  refine k_calli0 (va_runSN (As := [.int x3, .int i3l32]) (rest := []) ⟨hx, hb, hml, hown, hts⟩ (kK0_hasMember l D cI cZ cB cC H.size x3 i3l32 x6 ec7) ⟨va_cnB 2 hts gkK0_hasMember rfl rfl rfl (nwM hN 7 rfl) (hts _ wdt1_1) (by decide +kernel) ⟨Nat.le_of_ble_eq_true rfl, Nat.le_of_ble_eq_true rfl⟩, (hts _ wdt1_200), trivial⟩ ⟨Pr_blind, fun U hU hW => ⟨rfl, Pr_at hK hN hPc hDc hU hW⟩⟩ rfl rfl hl.1 rfl (lv_room (Nat.le_of_ble_eq_true rfl)) dK1_sortIntoClasses_44 ⟨Nat.le_of_ble_eq_true rfl, Nat.le_of_ble_eq_true rfl⟩) hP hD hS hA (fun H locs hP hD hS => ?_)
                  refine lv_if_eq (tgt := 62) hx hb dK1_sortIntoClasses_47 (by decide) (fun hc => ?_) (fun hc => ?_)
                  · replace hm := ift hm hc
                    obtain ⟨x8, ex8, hm⟩ := bd1_s hm
                    refine lv_iinc (v := x8) (lv' := [(3, .int x8), (2, .int x3), (1, .int i1l18), (0, .ref ta)]) hx hb dK1_sortIntoClasses_62 hl (k := 0) rfl (by rw [← Option.some.inj ex8]; rfl) (by decide) rfl (fun ls hl => ?_)
                    refine lv_goto (tgt := 32) hx hb dK1_sortIntoClasses_65 (by decide) ?_
                    exact ih32 x8 tmel32 _ _ _ hm hP hD hS (lv_sub hl [0, 1, 2, 3] rfl)
                  · replace hm := iff_ hm hc
                    refine lv_aload_n hx hb dK1_sortIntoClasses_50 rfl (lv_at hl 3 rfl) ?_
                    refine va_get (D := D) (ci := 1) (v := .ref ta2) (C := RK1) (T := TK1) (N := 4) hx hb hts inK1 hown hK hP 0 rfl rfl 1 (by decide) (hts _ wdt1_33) (fun _ h9 => h9) rfl dK1_sortIntoClasses_51 ?_
                    refine lv_iload_n hx hb dK1_sortIntoClasses_54 rfl (lv_at hl 0 rfl) ?_
                    refine lv_dup2_11 hx hb dK1_sortIntoClasses_55 rfl rfl ?_
                    obtain ⟨x9, ex9, hm⟩ := bd1_s hm
                    obtain ⟨hix9, ex9⟩ := rd_s ex9
                    refine va_iald hx hb hK hP 2 0 rfl rfl hix9 dK1_sortIntoClasses_56 ?_
                    refine topi ex9 ?_
                    refine lv_iconst (v := 1) hx hb dK1_sortIntoClasses_57 (by decide) ?_
                    refine lv_iload_n hx hb dK1_sortIntoClasses_58 rfl (lv_at hl 2 rfl) ?_
                    refine lv_ishl hx hb dK1_sortIntoClasses_59 ?_
                    refine lv_ior hx hb dK1_sortIntoClasses_60 ?_
                    obtain ⟨x10, ex10, hm⟩ := bd1_s hm
                    obtain ⟨hix10, ex10⟩ := wrt_s ex10
                    refine va_iast hx hb hK hP hD hS 2 0 rfl rfl hix10 dK1_sortIntoClasses_61 (fun H locs hP hD hS => ?_)
                    rw [ex10] at hP hD
                    have hP : va_P D vwCl (wT ta ta1 ta2 ta3 cI cZ cB cC tso tob x10 twi) H := hP
                    have hD : va_D A (wT ta ta1 ta2 ta3 cI cZ cB cC tso tob x10 twi) := hD
                    obtain ⟨x11, ex11, hm⟩ := bd1_s hm
                    refine lv_iinc (v := x11) (lv' := [(3, .int x11), (2, .int x3), (1, .int i1l18), (0, .ref ta)]) hx hb dK1_sortIntoClasses_62 hl (k := 0) rfl (by rw [← Option.some.inj ex11]; rfl) (by decide) rfl (fun ls hl => ?_)
                    refine lv_goto (tgt := 32) hx hb dK1_sortIntoClasses_65 (by decide) ?_
                    exact ih32 x11 x10 _ _ _ hm hP hD hS (lv_sub hl [0, 1, 2, 3] rfl)
          exact lp32 5000 0 tmel18 _ _ _ hm hP hD hS (lv_sub hl [0, 1, 2, 3] rfl)
    exact lp18 5000 0 x1 _ _ _ hm hP hD hS (lv_sub hl [0, 1] rfl)
  · replace hm := iff_ hm hc
    replace hm := Option.some.inj hm
    simp only [Prod.mk.injEq] at hm
    obtain ⟨rfl, rfl⟩ := hm
    exact k_retv hx hb hr hlocks hP hD hS dK1_sortIntoClasses_7
def mK0_putOrTake (trso : Int32) (trob : Nat → Int32) (trme : Nat → Int32) (v1 : Int32) (v2 : Int32) (v3 : Int32) (v4 : Int32) : Option (Int32 × Int32 × (Nat → Int32) × (Nat → Int32)) :=
  bd1 (mK0_isTriple v2 v3 v4) fun x1 => if x1 = 0 then
  (some ((-1), trso, trob, trme))
  else
  (bd1 (mK1_has trob v2 v3 v4) fun x3 => if x3 = v1 then
    (some (0, trso, trob, trme))
    else
    (bd1 (mK0_codeOf v2 v3 v4) fun x5 => bd2 (mK1_alter trso trob v1 x5) fun x7 x8 => bd2 (mK1_sortIntoClasses x7 x8 trme) fun x10 x11 => some (1, x10, x8, x11)))
abbrev rmK0_putOrTake : Room := { frames := 4, cells := 0, slots := 0, locals := 89 }
set_option maxHeartbeats 4000000 in
set_option maxRecDepth 100000 in
theorem kK0_putOrTake (l : Launch) (D : va_G) (cI cZ cB cC : ClassId) (sz : Nat) (oa : Nat) (tra : Nat) (tra1 : Nat) (tra2 : Nat) (tra3 : Nat) (tia : Nat) (tia1 : Nat) (tia2 : Nat) (tia3 : Nat) (rua : Nat) (rua1 : Nat) (rua2 : Nat) (rua3 : Nat) (rua4 : Nat) (cha : Nat) (cha1 : Nat) (cha2 : Nat) (cha3 : Nat) (foa : Nat) (foa1 : Nat) (foa2 : Nat) (sba : Nat) (ocs : Int32) (oal : Int32) (olt : Int32) (ols : Int32) (trso : Int32) (trob : Nat → Int32) (trme : Nat → Int32) (trwi : Nat → Int32) (tiso : Int32) (tiob : Nat → Int32) (time : Nat → Int32) (tiwi : Nat → Int32) (run : Int32) (ruki : Nat → Int32) (ruta : Nat → Int32) (rupr : Nat → Int32) (runu : Nat → Int32) (chn : Int32) (chpu : Nat → Int32) (chco : Nat → Int32) (chwe : Nat → Int32) (fon : Int32) (fose : Nat → Int32) (fosu : Nat → Int32) (v1 : Int32) (v2 : Int32) (v3 : Int32) (v4 : Int32) (r0 : Int32) (trso_r : Int32) (trob_r : Nat → Int32) (trme_r : Nat → Int32) (hm : mK0_putOrTake trso trob trme v1 v2 v3 v4 = some (r0, trso_r, trob_r, trme_r)) : Met l yK0_putOrTake wsK0_putOrTake rmK0_putOrTake (va_Pc [.ref oa, .int v1, .int v2, .int v3, .int v4] (Pr D (tyL cI cZ cB cC) sz (wM oa tra tra1 tra2 tra3 tia tia1 tia2 tia3 rua rua1 rua2 rua3 rua4 cha cha1 cha2 cha3 foa foa1 foa2 sba cI cZ cB cC ocs oal olt ols trso trob trme trwi tiso tiob time tiwi run ruki ruta rupr runu chn chpu chco chwe fon fose fosu))) (QI D (va_A (wM oa tra tra1 tra2 tra3 tia tia1 tia2 tia3 rua rua1 rua2 rua3 rua4 cha cha1 cha2 cha3 foa foa1 foa2 sba cI cZ cB cC ocs oal olt ols trso trob trme trwi tiso tiob time tiwi run ruki ruta rupr runu chn chpu chco chwe fon fose fosu) sz) r0 (wM oa tra tra1 tra2 tra3 tia tia1 tia2 tia3 rua rua1 rua2 rua3 rua4 cha cha1 cha2 cha3 foa foa1 foa2 sba cI cZ cB cC ocs oal olt ols trso_r trob_r trme_r trwi tiso tiob time tiwi run ruki ruta rupr runu chn chpu chco chwe fon fose fosu)) 0 0 (va_A (wM oa tra tra1 tra2 tra3 tia tia1 tia2 tia3 rua rua1 rua2 rua3 rua4 cha cha1 cha2 cha3 foa foa1 foa2 sba cI cZ cB cC ocs oal olt ols trso trob trme trwi tiso tiob time tiwi run ruki ruta rupr runu chn chpu chco chwe fon fose fosu) sz) := by
  refine Met.ofW (cc := cK0_putOrTake) (maxL := 5) (ret := (some .int)) (by decide) rfl ?_
  intro p e s m args below meth c s₁ B hml hv
  obtain ⟨rfl, hsz, hP, hK, hD0, hN⟩ := hv
  have hx := B.exec
  have hb := B.bytes
  have hr := B.returns
  have hts := htsA (atoms_spec (ws := wsK0_putOrTake) B.pre)
  have hown : s.vm.findClass RK0 = some m.cls := findClass_of_methodNamed B.named
  have hlocks := B.notSynchronized
  subst hsz
  have hD := hD0.self (sz := s.heap.size)
  generalize hAe : va_A (wM oa tra tra1 tra2 tra3 tia tia1 tia2 tia3 rua rua1 rua2 rua3 rua4 cha cha1 cha2 cha3 foa foa1 foa2 sba cI cZ cB cC ocs oal olt ols trso trob trme trwi tiso tiob time tiwi run ruki ruta rupr runu chn chpu chco chwe fon fose fosu) s.heap.size = A at hD ⊢
  have hA : ∀ q : Nat, s.heap.size ≤ q → A q := fun q h => by rw [← hAe]; exact Or.inr h
  refine kstart (A := A) hP (fun H hP hS => ?_)
  have hl := lv_entry ([.ref oa, .int v1, .int v2, .int v3, .int v4]) (n := 5) (Nat.le_of_ble_eq_true rfl)
  rw [lg_entry_eq]
  generalize (lg_sl ([.ref oa, .int v1, .int v2, .int v3, .int v4]) ++ List.replicate (5 - (lg_sl ([.ref oa, .int v1, .int v2, .int v3, .int v4])).length) Slot.unset).toArray = ls at hl ⊢
  have hl : lv_has ls 5 [(0, .ref oa), (1, .int v1), (2, .int v2), (3, .int v3), (4, .int v4)] := hl
  unfold mK0_putOrTake at hm
  refine lv_iload_n hx hb dK0_putOrTake_0 rfl (lv_at hl 2 rfl) ?_
  refine lv_iload_n hx hb dK0_putOrTake_1 rfl (lv_at hl 3 rfl) ?_
  refine lv_iload hx hb dK0_putOrTake_2 (lv_at hl 4 rfl) ?_
  obtain ⟨x1, ec2, hm⟩ := bd1_s hm
  have hPc : va_P D vwCl [] H := va_P0
  have hDc : va_D A [] := va_D0
  refine k_calli0 (va_runS (As := [.int v2, .int v3, .int v4]) (rest := []) ⟨hx, hb, hml, hown, hts⟩ (kK0_isTriple l D cI cZ cB cC H.size v2 v3 v4 x1 ec2) (va_cwS 3 hts (gdS wdt1_182 wdt1_183 wdt1_1 gkK0_isTriple) rfl rfl rfl (by decide +kernel) ⟨Nat.le_of_ble_eq_true rfl, Nat.le_of_ble_eq_true rfl⟩) ⟨Pr_blind, fun U hU hW => ⟨rfl, Pr_at hK hN hPc hDc hU hW⟩⟩ rfl rfl hl.1 rfl (lv_room (Nat.le_of_ble_eq_true rfl)) dK0_putOrTake_4 ⟨Nat.le_of_ble_eq_true rfl, Nat.le_of_ble_eq_true rfl⟩) hP hD hS hA (fun H locs hP hD hS => ?_)
  refine lv_if_ne (tgt := 12) hx hb dK0_putOrTake_7 (by decide) (fun hc => ?_) (fun hc => ?_)
  · replace hm := iff_ hm hc
    refine lv_aload_n hx hb dK0_putOrTake_12 rfl (lv_at hl 0 rfl) ?_
    refine va_get (D := D) (ci := 0) (v := .ref tra) (C := RK0) (T := TK0) (N := 10) hx hb hts inK0 hown hK hP 0 rfl rfl 0 (by decide) (hts _ wdt1_143) (fun _ h9 => h9) rfl dK0_putOrTake_13 ?_
    refine lv_iload_n hx hb dK0_putOrTake_16 rfl (lv_at hl 2 rfl) ?_
    refine lv_iload_n hx hb dK0_putOrTake_17 rfl (lv_at hl 3 rfl) ?_
    refine lv_iload hx hb dK0_putOrTake_18 (lv_at hl 4 rfl) ?_
    obtain ⟨x3, ec4, hm⟩ := bd1_s hm
    have hPc := hP.sub (ws' := (wT tra tra1 tra2 tra3 cI cZ cB cC trso trob trme trwi)) [1, 2, 3, 4] rfl
    have hDc := hD.sub (ws' := (wT tra tra1 tra2 tra3 cI cZ cB cC trso trob trme trwi)) [1, 2, 3, 4] (by decide) rfl
    refine k_calli (wr := [(oa, .inr (0, [.ref tra, .ref tia, .ref rua, .ref cha, .ref foa, .ref sba, .int ocs, .int oal, .int olt, .int ols])), (tia, .inr (1, [.ref tia1, .ref tia2, .ref tia3, .int tiso])), (tia1, .inl (cI, 72, .inl tiob)), (tia2, .inl (cI, 12, .inl time)), (tia3, .inl (cI, 12, .inl tiwi)), (rua, .inr (2, [.ref rua1, .ref rua2, .ref rua3, .ref rua4, .int run])), (rua1, .inl (cI, 10, .inl ruki)), (rua2, .inl (cI, 10, .inl ruta)), (rua3, .inl (cI, 10, .inl rupr)), (rua4, .inl (cI, 10, .inl runu)), (cha, .inr (3, [.ref cha1, .ref cha2, .ref cha3, .int chn])), (cha1, .inl (cZ, 12, .inl chpu)), (cha2, .inl (cI, 12, .inl chco)), (cha3, .inl (cI, 12, .inl chwe)), (foa, .inr (4, [.ref foa1, .ref foa2, .int fon])), (foa1, .inl (cI, 30, .inl fose)), (foa2, .inl (cI, 30, .inl fosu))]) (w1 := (wT tra tra1 tra2 tra3 cI cZ cB cC trso trob trme trwi)) (ws' := (wM oa tra tra1 tra2 tra3 tia tia1 tia2 tia3 rua rua1 rua2 rua3 rua4 cha cha1 cha2 cha3 foa foa1 foa2 sba cI cZ cB cC ocs oal olt ols trso trob trme trwi tiso tiob time tiwi run ruki ruta rupr runu chn chpu chco chwe fon fose fosu)) (va_runV (As := [.int v2, .int v3, .int v4]) (rest := []) ⟨hx, hb, hml, hown, hts⟩ (kK1_has l D cI cZ cB cC H.size tra tra1 tra2 tra3 trso trob trme trwi v2 v3 v4 x3 ec4) (cwV 3 hts (gdV wdt1_191 wdt1_192 wdt1_193 wdt1_2 gkK1_has) rfl rfl rfl (by decide +kernel) ⟨Nat.le_of_ble_eq_true rfl, Nat.le_of_ble_eq_true rfl⟩) ⟨Pr_blind, va_recv hK hPc (ci := 1) (q0 := 0) rfl rfl, fun U hU hW => ⟨rfl, Pr_at hK hN hPc hDc hU hW⟩⟩ rfl rfl hl.1 rfl (lv_room (Nat.le_of_ble_eq_true rfl)) dK0_putOrTake_20 ⟨Nat.le_of_ble_eq_true rfl, Nat.le_of_ble_eq_true rfl⟩) hP hD hS hA [1, 2, 3, 4] [0, 5, 6, 7, 8, 9, 10, 11, 12, 13, 14, 15, 16, 17, 18, 19, 20] [0, 17, 18, 19, 20, 1, 2, 3, 4, 5, 6, 7, 8, 9, 10, 11, 12, 13, 14, 15, 16] rfl rfl (by decide) (by decide) (by decide) rfl (fun H locs hP hD hS => ?_)
    refine lv_iload_n hx hb dK0_putOrTake_23 rfl (lv_at hl 1 rfl) ?_
    refine lv_icmp_ne (tgt := 29) hx hb dK0_putOrTake_24 (by decide) (fun hc => ?_) (fun hc => ?_)
    · replace hm := iff_ hm hc
      refine lv_aload_n hx hb dK0_putOrTake_29 rfl (lv_at hl 0 rfl) ?_
      refine va_get (D := D) (ci := 0) (v := .ref tra) (C := RK0) (T := TK0) (N := 10) hx hb hts inK0 hown hK hP 0 rfl rfl 0 (by decide) (hts _ wdt1_143) (fun _ h9 => h9) rfl dK0_putOrTake_30 ?_
      refine lv_iload_n hx hb dK0_putOrTake_33 rfl (lv_at hl 1 rfl) ?_
      refine lv_iload_n hx hb dK0_putOrTake_34 rfl (lv_at hl 2 rfl) ?_
      refine lv_iload_n hx hb dK0_putOrTake_35 rfl (lv_at hl 3 rfl) ?_
      refine lv_iload hx hb dK0_putOrTake_36 (lv_at hl 4 rfl) ?_
      obtain ⟨x5, ec6, hm⟩ := bd1_s hm
      have hPc : va_P D vwCl [] H := va_P0
      have hDc : va_D A [] := va_D0
      refine k_calli0 (va_runS (As := [.int v2, .int v3, .int v4]) (rest := [.int v1, .ref tra]) ⟨hx, hb, hml, hown, hts⟩ (kK0_codeOf l D cI cZ cB cC H.size v2 v3 v4 x5 ec6) (va_cwS 3 hts (gdS wdt1_202 wdt1_203 wdt1_1 gkK0_codeOf) rfl rfl rfl (by decide +kernel) ⟨Nat.le_of_ble_eq_true rfl, Nat.le_of_ble_eq_true rfl⟩) ⟨Pr_blind, fun U hU hW => ⟨rfl, Pr_at hK hN hPc hDc hU hW⟩⟩ rfl rfl hl.1 rfl (lv_room (Nat.le_of_ble_eq_true rfl)) dK0_putOrTake_38 ⟨Nat.le_of_ble_eq_true rfl, Nat.le_of_ble_eq_true rfl⟩) hP hD hS hA (fun H locs hP hD hS => ?_)
      obtain ⟨x7, x8, ec9, hm⟩ := bd2_s hm
      have hPc := hP.sub (ws' := (wT tra tra1 tra2 tra3 cI cZ cB cC trso trob trme trwi)) [1, 2, 3, 4] rfl
      have hDc := hD.sub (ws' := (wT tra tra1 tra2 tra3 cI cZ cB cC trso trob trme trwi)) [1, 2, 3, 4] (by decide) rfl
      refine k_callv (wr := [(oa, .inr (0, [.ref tra, .ref tia, .ref rua, .ref cha, .ref foa, .ref sba, .int ocs, .int oal, .int olt, .int ols])), (tia, .inr (1, [.ref tia1, .ref tia2, .ref tia3, .int tiso])), (tia1, .inl (cI, 72, .inl tiob)), (tia2, .inl (cI, 12, .inl time)), (tia3, .inl (cI, 12, .inl tiwi)), (rua, .inr (2, [.ref rua1, .ref rua2, .ref rua3, .ref rua4, .int run])), (rua1, .inl (cI, 10, .inl ruki)), (rua2, .inl (cI, 10, .inl ruta)), (rua3, .inl (cI, 10, .inl rupr)), (rua4, .inl (cI, 10, .inl runu)), (cha, .inr (3, [.ref cha1, .ref cha2, .ref cha3, .int chn])), (cha1, .inl (cZ, 12, .inl chpu)), (cha2, .inl (cI, 12, .inl chco)), (cha3, .inl (cI, 12, .inl chwe)), (foa, .inr (4, [.ref foa1, .ref foa2, .int fon])), (foa1, .inl (cI, 30, .inl fose)), (foa2, .inl (cI, 30, .inl fosu))]) (w1 := (wT tra tra1 tra2 tra3 cI cZ cB cC x7 x8 trme trwi)) (ws' := (wM oa tra tra1 tra2 tra3 tia tia1 tia2 tia3 rua rua1 rua2 rua3 rua4 cha cha1 cha2 cha3 foa foa1 foa2 sba cI cZ cB cC ocs oal olt ols x7 x8 trme trwi tiso tiob time tiwi run ruki ruta rupr runu chn chpu chco chwe fon fose fosu)) (va_runV (As := [.int v1, .int x5]) (rest := []) ⟨hx, hb, hml, hown, hts⟩ (kK1_alter l D cI cZ cB cC H.size tra tra1 tra2 tra3 trso trob trme trwi v1 x5 x7 x8 ec9) (cwV 2 hts (gdV wdt1_205 wdt1_206 wdt1_207 wdt1_2 gkK1_alter) rfl rfl rfl (by decide +kernel) ⟨Nat.le_of_ble_eq_true rfl, Nat.le_of_ble_eq_true rfl⟩) ⟨Pr_blind, va_recv hK hPc (ci := 1) (q0 := 0) rfl rfl, fun U hU hW => ⟨rfl, Pr_at hK hN hPc hDc hU hW⟩⟩ rfl rfl hl.1 rfl (lv_room (Nat.le_of_ble_eq_true rfl)) dK0_putOrTake_41 ⟨Nat.le_of_ble_eq_true rfl, Nat.le_of_ble_eq_true rfl⟩) hP hD hS hA [1, 2, 3, 4] [0, 5, 6, 7, 8, 9, 10, 11, 12, 13, 14, 15, 16, 17, 18, 19, 20] [0, 17, 18, 19, 20, 1, 2, 3, 4, 5, 6, 7, 8, 9, 10, 11, 12, 13, 14, 15, 16] rfl rfl (by decide) (by decide) (by decide) rfl (fun H locs hP hD hS => ?_)
      refine lv_aload_n hx hb dK0_putOrTake_44 rfl (lv_at hl 0 rfl) ?_
      refine va_get (D := D) (ci := 0) (v := .ref tra) (C := RK0) (T := TK0) (N := 10) hx hb hts inK0 hown hK hP 0 rfl rfl 0 (by decide) (hts _ wdt1_143) (fun _ h9 => h9) rfl dK0_putOrTake_45 ?_
      obtain ⟨x10, x11, ec12, hm⟩ := bd2_s hm
      have hPc := hP.sub (ws' := (wT tra tra1 tra2 tra3 cI cZ cB cC x7 x8 trme trwi)) [1, 2, 3, 4] rfl
      have hDc := hD.sub (ws' := (wT tra tra1 tra2 tra3 cI cZ cB cC x7 x8 trme trwi)) [1, 2, 3, 4] (by decide) rfl
      refine k_callv (wr := [(oa, .inr (0, [.ref tra, .ref tia, .ref rua, .ref cha, .ref foa, .ref sba, .int ocs, .int oal, .int olt, .int ols])), (tia, .inr (1, [.ref tia1, .ref tia2, .ref tia3, .int tiso])), (tia1, .inl (cI, 72, .inl tiob)), (tia2, .inl (cI, 12, .inl time)), (tia3, .inl (cI, 12, .inl tiwi)), (rua, .inr (2, [.ref rua1, .ref rua2, .ref rua3, .ref rua4, .int run])), (rua1, .inl (cI, 10, .inl ruki)), (rua2, .inl (cI, 10, .inl ruta)), (rua3, .inl (cI, 10, .inl rupr)), (rua4, .inl (cI, 10, .inl runu)), (cha, .inr (3, [.ref cha1, .ref cha2, .ref cha3, .int chn])), (cha1, .inl (cZ, 12, .inl chpu)), (cha2, .inl (cI, 12, .inl chco)), (cha3, .inl (cI, 12, .inl chwe)), (foa, .inr (4, [.ref foa1, .ref foa2, .int fon])), (foa1, .inl (cI, 30, .inl fose)), (foa2, .inl (cI, 30, .inl fosu))]) (w1 := (wT tra tra1 tra2 tra3 cI cZ cB cC x10 x8 x11 trwi)) (ws' := (wM oa tra tra1 tra2 tra3 tia tia1 tia2 tia3 rua rua1 rua2 rua3 rua4 cha cha1 cha2 cha3 foa foa1 foa2 sba cI cZ cB cC ocs oal olt ols x10 x8 x11 trwi tiso tiob time tiwi run ruki ruta rupr runu chn chpu chco chwe fon fose fosu)) (va_runV (As := []) (rest := []) ⟨hx, hb, hml, hown, hts⟩ (kK1_sortIntoClasses l D cI cZ cB cC H.size tra tra1 tra2 tra3 x7 x8 trme trwi x10 x11 ec12) (cwV 0 hts (gdV wdt1_209 wdt1_210 wdt1_211 wdt1_2 gkK1_sortIntoClasses) rfl rfl rfl (by decide +kernel) ⟨Nat.le_of_ble_eq_true rfl, Nat.le_of_ble_eq_true rfl⟩) ⟨Pr_blind, va_recv hK hPc (ci := 1) (q0 := 0) rfl rfl, fun U hU hW => ⟨rfl, Pr_at hK hN hPc hDc hU hW⟩⟩ rfl rfl hl.1 rfl (lv_room (Nat.le_of_ble_eq_true rfl)) dK0_putOrTake_48 ⟨Nat.le_of_ble_eq_true rfl, Nat.le_of_ble_eq_true rfl⟩) hP hD hS hA [1, 2, 3, 4] [0, 5, 6, 7, 8, 9, 10, 11, 12, 13, 14, 15, 16, 17, 18, 19, 20] [0, 17, 18, 19, 20, 1, 2, 3, 4, 5, 6, 7, 8, 9, 10, 11, 12, 13, 14, 15, 16] rfl rfl (by decide) (by decide) (by decide) rfl (fun H locs hP hD hS => ?_)
      refine lv_iconst (v := 1) hx hb dK0_putOrTake_51 (by decide) ?_
      replace hm := Option.some.inj hm
      simp only [Prod.mk.injEq] at hm
      obtain ⟨rfl, rfl, rfl, rfl⟩ := hm
      exact k_reti hx hb hr hlocks hP hD hS dK0_putOrTake_52
    · replace hm := ift hm hc
      refine lv_iconst (v := 0) hx hb dK0_putOrTake_27 (by decide) ?_
      replace hm := Option.some.inj hm
      simp only [Prod.mk.injEq] at hm
      obtain ⟨rfl, rfl, rfl, rfl⟩ := hm
      exact k_reti hx hb hr hlocks hP hD hS dK0_putOrTake_28
  · replace hm := ift hm hc
    refine lv_iconst (v := (-1)) hx hb dK0_putOrTake_10 (by decide) ?_
    replace hm := Option.some.inj hm
    simp only [Prod.mk.injEq] at hm
    obtain ⟨rfl, rfl, rfl, rfl⟩ := hm
    exact k_reti hx hb hr hlocks hP hD hS dK0_putOrTake_11
def mK0_triple (trso : Int32) (trob : Nat → Int32) (trme : Nat → Int32) (v1 : Int32) (v2 : Int32) (v3 : Int32) : Option (Int32 × Int32 × (Nat → Int32) × (Nat → Int32)) :=
  bd4 (mK0_putOrTake trso trob trme 1 v1 v2 v3) fun x1 x2 x3 x4 => some (x1, x2, x3, x4)
abbrev rmK0_triple : Room := { frames := 5, cells := 0, slots := 0, locals := 113 }
set_option maxHeartbeats 4000000 in
set_option maxRecDepth 100000 in
theorem kK0_triple (l : Launch) (D : va_G) (cI cZ cB cC : ClassId) (sz : Nat) (oa : Nat) (tra : Nat) (tra1 : Nat) (tra2 : Nat) (tra3 : Nat) (tia : Nat) (tia1 : Nat) (tia2 : Nat) (tia3 : Nat) (rua : Nat) (rua1 : Nat) (rua2 : Nat) (rua3 : Nat) (rua4 : Nat) (cha : Nat) (cha1 : Nat) (cha2 : Nat) (cha3 : Nat) (foa : Nat) (foa1 : Nat) (foa2 : Nat) (sba : Nat) (ocs : Int32) (oal : Int32) (olt : Int32) (ols : Int32) (trso : Int32) (trob : Nat → Int32) (trme : Nat → Int32) (trwi : Nat → Int32) (tiso : Int32) (tiob : Nat → Int32) (time : Nat → Int32) (tiwi : Nat → Int32) (run : Int32) (ruki : Nat → Int32) (ruta : Nat → Int32) (rupr : Nat → Int32) (runu : Nat → Int32) (chn : Int32) (chpu : Nat → Int32) (chco : Nat → Int32) (chwe : Nat → Int32) (fon : Int32) (fose : Nat → Int32) (fosu : Nat → Int32) (v1 : Int32) (v2 : Int32) (v3 : Int32) (r0 : Int32) (trso_r : Int32) (trob_r : Nat → Int32) (trme_r : Nat → Int32) (hm : mK0_triple trso trob trme v1 v2 v3 = some (r0, trso_r, trob_r, trme_r)) : Met l yK0_triple wsK0_triple rmK0_triple (va_Pc [.ref oa, .int v1, .int v2, .int v3] (Pr D (tyL cI cZ cB cC) sz (wM oa tra tra1 tra2 tra3 tia tia1 tia2 tia3 rua rua1 rua2 rua3 rua4 cha cha1 cha2 cha3 foa foa1 foa2 sba cI cZ cB cC ocs oal olt ols trso trob trme trwi tiso tiob time tiwi run ruki ruta rupr runu chn chpu chco chwe fon fose fosu))) (QI D (va_A (wM oa tra tra1 tra2 tra3 tia tia1 tia2 tia3 rua rua1 rua2 rua3 rua4 cha cha1 cha2 cha3 foa foa1 foa2 sba cI cZ cB cC ocs oal olt ols trso trob trme trwi tiso tiob time tiwi run ruki ruta rupr runu chn chpu chco chwe fon fose fosu) sz) r0 (wM oa tra tra1 tra2 tra3 tia tia1 tia2 tia3 rua rua1 rua2 rua3 rua4 cha cha1 cha2 cha3 foa foa1 foa2 sba cI cZ cB cC ocs oal olt ols trso_r trob_r trme_r trwi tiso tiob time tiwi run ruki ruta rupr runu chn chpu chco chwe fon fose fosu)) 0 0 (va_A (wM oa tra tra1 tra2 tra3 tia tia1 tia2 tia3 rua rua1 rua2 rua3 rua4 cha cha1 cha2 cha3 foa foa1 foa2 sba cI cZ cB cC ocs oal olt ols trso trob trme trwi tiso tiob time tiwi run ruki ruta rupr runu chn chpu chco chwe fon fose fosu) sz) := by
  refine Met.ofW (cc := cK0_triple) (maxL := 4) (ret := (some .int)) (by decide) rfl ?_
  intro p e s m args below meth c s₁ B hml hv
  obtain ⟨rfl, hsz, hP, hK, hD0, hN⟩ := hv
  have hx := B.exec
  have hb := B.bytes
  have hr := B.returns
  have hts := htsA (atoms_spec (ws := wsK0_triple) B.pre)
  have hown : s.vm.findClass RK0 = some m.cls := findClass_of_methodNamed B.named
  have hlocks := B.notSynchronized
  subst hsz
  have hD := hD0.self (sz := s.heap.size)
  generalize hAe : va_A (wM oa tra tra1 tra2 tra3 tia tia1 tia2 tia3 rua rua1 rua2 rua3 rua4 cha cha1 cha2 cha3 foa foa1 foa2 sba cI cZ cB cC ocs oal olt ols trso trob trme trwi tiso tiob time tiwi run ruki ruta rupr runu chn chpu chco chwe fon fose fosu) s.heap.size = A at hD ⊢
  have hA : ∀ q : Nat, s.heap.size ≤ q → A q := fun q h => by rw [← hAe]; exact Or.inr h
  refine kstart (A := A) hP (fun H hP hS => ?_)
  have hl := lv_entry ([.ref oa, .int v1, .int v2, .int v3]) (n := 4) (Nat.le_of_ble_eq_true rfl)
  rw [lg_entry_eq]
  generalize (lg_sl ([.ref oa, .int v1, .int v2, .int v3]) ++ List.replicate (4 - (lg_sl ([.ref oa, .int v1, .int v2, .int v3])).length) Slot.unset).toArray = ls at hl ⊢
  have hl : lv_has ls 4 [(0, .ref oa), (1, .int v1), (2, .int v2), (3, .int v3)] := hl
  unfold mK0_triple at hm
  refine lv_aload_n hx hb dK0_triple_0 rfl (lv_at hl 0 rfl) ?_
  refine lv_iconst (v := 1) hx hb dK0_triple_1 (by decide) ?_
  refine lv_iload_n hx hb dK0_triple_2 rfl (lv_at hl 1 rfl) ?_
  refine lv_iload_n hx hb dK0_triple_3 rfl (lv_at hl 2 rfl) ?_
  refine lv_iload_n hx hb dK0_triple_4 rfl (lv_at hl 3 rfl) ?_
  obtain ⟨x1, x2, x3, x4, ec5, hm⟩ := bd4_s hm
  have hPc := hP.sub (ws' := (wM oa tra tra1 tra2 tra3 tia tia1 tia2 tia3 rua rua1 rua2 rua3 rua4 cha cha1 cha2 cha3 foa foa1 foa2 sba cI cZ cB cC ocs oal olt ols trso trob trme trwi tiso tiob time tiwi run ruki ruta rupr runu chn chpu chco chwe fon fose fosu)) [0, 1, 2, 3, 4, 5, 6, 7, 8, 9, 10, 11, 12, 13, 14, 15, 16, 17, 18, 19, 20] rfl
  have hDc := hD.sub (ws' := (wM oa tra tra1 tra2 tra3 tia tia1 tia2 tia3 rua rua1 rua2 rua3 rua4 cha cha1 cha2 cha3 foa foa1 foa2 sba cI cZ cB cC ocs oal olt ols trso trob trme trwi tiso tiob time tiwi run ruki ruta rupr runu chn chpu chco chwe fon fose fosu)) [0, 1, 2, 3, 4, 5, 6, 7, 8, 9, 10, 11, 12, 13, 14, 15, 16, 17, 18, 19, 20] (by decide) rfl
  refine k_calli (wr := []) (w1 := (wM oa tra tra1 tra2 tra3 tia tia1 tia2 tia3 rua rua1 rua2 rua3 rua4 cha cha1 cha2 cha3 foa foa1 foa2 sba cI cZ cB cC ocs oal olt ols x2 x3 x4 trwi tiso tiob time tiwi run ruki ruta rupr runu chn chpu chco chwe fon fose fosu)) (ws' := (wM oa tra tra1 tra2 tra3 tia tia1 tia2 tia3 rua rua1 rua2 rua3 rua4 cha cha1 cha2 cha3 foa foa1 foa2 sba cI cZ cB cC ocs oal olt ols x2 x3 x4 trwi tiso tiob time tiwi run ruki ruta rupr runu chn chpu chco chwe fon fose fosu)) (va_runV (As := [.int 1, .int v1, .int v2, .int v3]) (rest := []) ⟨hx, hb, hml, hown, hts⟩ (kK0_putOrTake l D cI cZ cB cC H.size oa tra tra1 tra2 tra3 tia tia1 tia2 tia3 rua rua1 rua2 rua3 rua4 cha cha1 cha2 cha3 foa foa1 foa2 sba ocs oal olt ols trso trob trme trwi tiso tiob time tiwi run ruki ruta rupr runu chn chpu chco chwe fon fose fosu 1 v1 v2 v3 x1 x2 x3 x4 ec5) (cwV 4 hts (gdV wdt1_178 wdt1_180 wds1_0 wdt1_1 gkK0_putOrTake) rfl rfl rfl (by decide +kernel) ⟨Nat.le_of_ble_eq_true rfl, Nat.le_of_ble_eq_true rfl⟩) ⟨Pr_blind, va_recv hK hPc (ci := 0) (q0 := 0) rfl rfl, fun U hU hW => ⟨rfl, Pr_at hK hN hPc hDc hU hW⟩⟩ rfl rfl hl.1 rfl (lv_room (Nat.le_of_ble_eq_true rfl)) dK0_triple_5 ⟨Nat.le_of_ble_eq_true rfl, Nat.le_of_ble_eq_true rfl⟩) hP hD hS hA [0, 1, 2, 3, 4, 5, 6, 7, 8, 9, 10, 11, 12, 13, 14, 15, 16, 17, 18, 19, 20] [] [0, 1, 2, 3, 4, 5, 6, 7, 8, 9, 10, 11, 12, 13, 14, 15, 16, 17, 18, 19, 20] rfl rfl (by decide) (by decide) (by decide) rfl (fun H locs hP hD hS => ?_)
  replace hm := Option.some.inj hm
  simp only [Prod.mk.injEq] at hm
  obtain ⟨rfl, rfl, rfl, rfl⟩ := hm
  exact k_reti hx hb hr hlocks hP hD hS dK0_triple_8
def mK0_drop (trso : Int32) (trob : Nat → Int32) (trme : Nat → Int32) (v1 : Int32) (v2 : Int32) (v3 : Int32) : Option (Int32 × Int32 × (Nat → Int32) × (Nat → Int32)) :=
  bd4 (mK0_putOrTake trso trob trme 0 v1 v2 v3) fun x1 x2 x3 x4 => some (x1, x2, x3, x4)
abbrev rmK0_drop : Room := { frames := 5, cells := 0, slots := 0, locals := 113 }
set_option maxHeartbeats 4000000 in
set_option maxRecDepth 100000 in
theorem kK0_drop (l : Launch) (D : va_G) (cI cZ cB cC : ClassId) (sz : Nat) (oa : Nat) (tra : Nat) (tra1 : Nat) (tra2 : Nat) (tra3 : Nat) (tia : Nat) (tia1 : Nat) (tia2 : Nat) (tia3 : Nat) (rua : Nat) (rua1 : Nat) (rua2 : Nat) (rua3 : Nat) (rua4 : Nat) (cha : Nat) (cha1 : Nat) (cha2 : Nat) (cha3 : Nat) (foa : Nat) (foa1 : Nat) (foa2 : Nat) (sba : Nat) (ocs : Int32) (oal : Int32) (olt : Int32) (ols : Int32) (trso : Int32) (trob : Nat → Int32) (trme : Nat → Int32) (trwi : Nat → Int32) (tiso : Int32) (tiob : Nat → Int32) (time : Nat → Int32) (tiwi : Nat → Int32) (run : Int32) (ruki : Nat → Int32) (ruta : Nat → Int32) (rupr : Nat → Int32) (runu : Nat → Int32) (chn : Int32) (chpu : Nat → Int32) (chco : Nat → Int32) (chwe : Nat → Int32) (fon : Int32) (fose : Nat → Int32) (fosu : Nat → Int32) (v1 : Int32) (v2 : Int32) (v3 : Int32) (r0 : Int32) (trso_r : Int32) (trob_r : Nat → Int32) (trme_r : Nat → Int32) (hm : mK0_drop trso trob trme v1 v2 v3 = some (r0, trso_r, trob_r, trme_r)) : Met l yK0_drop wsK0_drop rmK0_drop (va_Pc [.ref oa, .int v1, .int v2, .int v3] (Pr D (tyL cI cZ cB cC) sz (wM oa tra tra1 tra2 tra3 tia tia1 tia2 tia3 rua rua1 rua2 rua3 rua4 cha cha1 cha2 cha3 foa foa1 foa2 sba cI cZ cB cC ocs oal olt ols trso trob trme trwi tiso tiob time tiwi run ruki ruta rupr runu chn chpu chco chwe fon fose fosu))) (QI D (va_A (wM oa tra tra1 tra2 tra3 tia tia1 tia2 tia3 rua rua1 rua2 rua3 rua4 cha cha1 cha2 cha3 foa foa1 foa2 sba cI cZ cB cC ocs oal olt ols trso trob trme trwi tiso tiob time tiwi run ruki ruta rupr runu chn chpu chco chwe fon fose fosu) sz) r0 (wM oa tra tra1 tra2 tra3 tia tia1 tia2 tia3 rua rua1 rua2 rua3 rua4 cha cha1 cha2 cha3 foa foa1 foa2 sba cI cZ cB cC ocs oal olt ols trso_r trob_r trme_r trwi tiso tiob time tiwi run ruki ruta rupr runu chn chpu chco chwe fon fose fosu)) 0 0 (va_A (wM oa tra tra1 tra2 tra3 tia tia1 tia2 tia3 rua rua1 rua2 rua3 rua4 cha cha1 cha2 cha3 foa foa1 foa2 sba cI cZ cB cC ocs oal olt ols trso trob trme trwi tiso tiob time tiwi run ruki ruta rupr runu chn chpu chco chwe fon fose fosu) sz) := by
  refine Met.ofW (cc := cK0_drop) (maxL := 4) (ret := (some .int)) (by decide) rfl ?_
  intro p e s m args below meth c s₁ B hml hv
  obtain ⟨rfl, hsz, hP, hK, hD0, hN⟩ := hv
  have hx := B.exec
  have hb := B.bytes
  have hr := B.returns
  have hts := htsA (atoms_spec (ws := wsK0_drop) B.pre)
  have hown : s.vm.findClass RK0 = some m.cls := findClass_of_methodNamed B.named
  have hlocks := B.notSynchronized
  subst hsz
  have hD := hD0.self (sz := s.heap.size)
  generalize hAe : va_A (wM oa tra tra1 tra2 tra3 tia tia1 tia2 tia3 rua rua1 rua2 rua3 rua4 cha cha1 cha2 cha3 foa foa1 foa2 sba cI cZ cB cC ocs oal olt ols trso trob trme trwi tiso tiob time tiwi run ruki ruta rupr runu chn chpu chco chwe fon fose fosu) s.heap.size = A at hD ⊢
  have hA : ∀ q : Nat, s.heap.size ≤ q → A q := fun q h => by rw [← hAe]; exact Or.inr h
  refine kstart (A := A) hP (fun H hP hS => ?_)
  have hl := lv_entry ([.ref oa, .int v1, .int v2, .int v3]) (n := 4) (Nat.le_of_ble_eq_true rfl)
  rw [lg_entry_eq]
  generalize (lg_sl ([.ref oa, .int v1, .int v2, .int v3]) ++ List.replicate (4 - (lg_sl ([.ref oa, .int v1, .int v2, .int v3])).length) Slot.unset).toArray = ls at hl ⊢
  have hl : lv_has ls 4 [(0, .ref oa), (1, .int v1), (2, .int v2), (3, .int v3)] := hl
  unfold mK0_drop at hm
  refine lv_aload_n hx hb dK0_drop_0 rfl (lv_at hl 0 rfl) ?_
  refine lv_iconst (v := 0) hx hb dK0_drop_1 (by decide) ?_
  refine lv_iload_n hx hb dK0_drop_2 rfl (lv_at hl 1 rfl) ?_
  refine lv_iload_n hx hb dK0_drop_3 rfl (lv_at hl 2 rfl) ?_
  refine lv_iload_n hx hb dK0_drop_4 rfl (lv_at hl 3 rfl) ?_
  obtain ⟨x1, x2, x3, x4, ec5, hm⟩ := bd4_s hm
  have hPc := hP.sub (ws' := (wM oa tra tra1 tra2 tra3 tia tia1 tia2 tia3 rua rua1 rua2 rua3 rua4 cha cha1 cha2 cha3 foa foa1 foa2 sba cI cZ cB cC ocs oal olt ols trso trob trme trwi tiso tiob time tiwi run ruki ruta rupr runu chn chpu chco chwe fon fose fosu)) [0, 1, 2, 3, 4, 5, 6, 7, 8, 9, 10, 11, 12, 13, 14, 15, 16, 17, 18, 19, 20] rfl
  have hDc := hD.sub (ws' := (wM oa tra tra1 tra2 tra3 tia tia1 tia2 tia3 rua rua1 rua2 rua3 rua4 cha cha1 cha2 cha3 foa foa1 foa2 sba cI cZ cB cC ocs oal olt ols trso trob trme trwi tiso tiob time tiwi run ruki ruta rupr runu chn chpu chco chwe fon fose fosu)) [0, 1, 2, 3, 4, 5, 6, 7, 8, 9, 10, 11, 12, 13, 14, 15, 16, 17, 18, 19, 20] (by decide) rfl
  refine k_calli (wr := []) (w1 := (wM oa tra tra1 tra2 tra3 tia tia1 tia2 tia3 rua rua1 rua2 rua3 rua4 cha cha1 cha2 cha3 foa foa1 foa2 sba cI cZ cB cC ocs oal olt ols x2 x3 x4 trwi tiso tiob time tiwi run ruki ruta rupr runu chn chpu chco chwe fon fose fosu)) (ws' := (wM oa tra tra1 tra2 tra3 tia tia1 tia2 tia3 rua rua1 rua2 rua3 rua4 cha cha1 cha2 cha3 foa foa1 foa2 sba cI cZ cB cC ocs oal olt ols x2 x3 x4 trwi tiso tiob time tiwi run ruki ruta rupr runu chn chpu chco chwe fon fose fosu)) (va_runV (As := [.int 0, .int v1, .int v2, .int v3]) (rest := []) ⟨hx, hb, hml, hown, hts⟩ (kK0_putOrTake l D cI cZ cB cC H.size oa tra tra1 tra2 tra3 tia tia1 tia2 tia3 rua rua1 rua2 rua3 rua4 cha cha1 cha2 cha3 foa foa1 foa2 sba ocs oal olt ols trso trob trme trwi tiso tiob time tiwi run ruki ruta rupr runu chn chpu chco chwe fon fose fosu 0 v1 v2 v3 x1 x2 x3 x4 ec5) (cwV 4 hts (gdV wdt1_178 wdt1_180 wds1_0 wdt1_1 gkK0_putOrTake) rfl rfl rfl (by decide +kernel) ⟨Nat.le_of_ble_eq_true rfl, Nat.le_of_ble_eq_true rfl⟩) ⟨Pr_blind, va_recv hK hPc (ci := 0) (q0 := 0) rfl rfl, fun U hU hW => ⟨rfl, Pr_at hK hN hPc hDc hU hW⟩⟩ rfl rfl hl.1 rfl (lv_room (Nat.le_of_ble_eq_true rfl)) dK0_drop_5 ⟨Nat.le_of_ble_eq_true rfl, Nat.le_of_ble_eq_true rfl⟩) hP hD hS hA [0, 1, 2, 3, 4, 5, 6, 7, 8, 9, 10, 11, 12, 13, 14, 15, 16, 17, 18, 19, 20] [] [0, 1, 2, 3, 4, 5, 6, 7, 8, 9, 10, 11, 12, 13, 14, 15, 16, 17, 18, 19, 20] rfl rfl (by decide) (by decide) (by decide) rfl (fun H locs hP hD hS => ?_)
  replace hm := Option.some.inj hm
  simp only [Prod.mk.injEq] at hm
  obtain ⟨rfl, rfl, rfl, rfl⟩ := hm
  exact k_reti hx hb hr hlocks hP hD hS dK0_drop_8
def mK0_fitsKind (v0 : Int32) (v1 : Int32) : Option (Int32) :=
  if v0 = 0 then
  (if v1 < 0 then
    (some 0)
    else
    (if 12 < v1 then
      (some 0)
      else
      (some 1)))
  else
  (if v0 = 1 then
  (if v1 < 0 then
    (some 0)
    else
    (if 12 < v1 then
      (some 0)
      else
      (some 1)))
  else
  (if v0 = 2 then
  (bd1 (mK0_isNode v1) fun x1 => bd1 (bz x1) fun x3 => some x3)
  else
  (if v0 = 3 then
  (bd1 (mK0_isNode v1) fun x4 => bd1 (bz x4) fun x6 => some x6)
  else
  (if v0 = 4 then
  (bd1 (mK0_isPredicate v1) fun x7 => bd1 (bz x7) fun x9 => some x9)
  else
  (if v0 = 5 then
  (bd1 (mK0_isPredicate v1) fun x10 => bd1 (bz x10) fun x12 => some x12)
  else
  (some 0))))))
abbrev rmK0_fitsKind : Room := { frames := 1, cells := 0, slots := 0, locals := 20 }
set_option maxHeartbeats 4000000 in
set_option maxRecDepth 100000 in
theorem kK0_fitsKind (l : Launch) (D : va_G) (cI cZ cB cC : ClassId) (sz : Nat) (v0 : Int32) (v1 : Int32) (r0 : Int32) (hm : mK0_fitsKind v0 v1 = some r0) : Met l yK0_fitsKind wsK0_fitsKind rmK0_fitsKind (va_Pc [.int v0, .int v1] (Pr D (tyL cI cZ cB cC) sz [])) (QI D (va_A [] sz) r0 []) 0 0 (va_A [] sz) := by
  refine Met.ofW (cc := cK0_fitsKind) (maxL := 2) (ret := (some .boolean)) (by decide) rfl ?_
  intro p e s m args below meth c s₁ B hml hv
  obtain ⟨rfl, hsz, hP, hK, hD0, hN⟩ := hv
  have hx := B.exec
  have hb := B.bytes
  have hr := B.returns
  have hts := htsA (atoms_spec (ws := wsK0_fitsKind) B.pre)
  have hown : s.vm.findClass RK0 = some m.cls := findClass_of_methodNamed B.named
  have hlocks := B.notSynchronized
  subst hsz
  have hD := hD0.self (sz := s.heap.size)
  generalize hAe : va_A [] s.heap.size = A at hD ⊢
  have hA : ∀ q : Nat, s.heap.size ≤ q → A q := fun q h => by rw [← hAe]; exact Or.inr h
  refine kstart (A := A) hP (fun H hP hS => ?_)
  have hl := lv_entry ([.int v0, .int v1]) (n := 2) (Nat.le_of_ble_eq_true rfl)
  rw [lg_entry_eq]
  generalize (lg_sl ([.int v0, .int v1]) ++ List.replicate (2 - (lg_sl ([.int v0, .int v1])).length) Slot.unset).toArray = ls at hl ⊢
  have hl : lv_has ls 2 [(0, .int v0), (1, .int v1)] := hl
  unfold mK0_fitsKind at hm
  refine lv_iload_n hx hb dK0_fitsKind_0 rfl (lv_at hl 0 rfl) ?_
  by_cases hc1_0 : v0 = 0
  · replace hm := ift hm hc1_0
    refine topi hc1_0 ?_
    refine lv_tableIn (tgt := 40) hx hb dK0_fitsKind_1 (by decide) (by decide) rfl (by decide) ?_
    refine lv_iload_n hx hb dK0_fitsKind_40 rfl (lv_at hl 1 rfl) ?_
    refine lv_if_lt (tgt := 54) hx hb dK0_fitsKind_41 (by decide) (fun hc => ?_) (fun hc => ?_)
    · replace hm := ift hm hc
      refine lv_iconst (v := 0) hx hb dK0_fitsKind_54 (by decide) ?_
      replace hm := Option.some.inj hm
      subst hm
      exact k_retz hx hb hr hlocks rfl hP hD hS dK0_fitsKind_55
    · replace hm := iff_ hm hc
      refine lv_iload_n hx hb dK0_fitsKind_44 rfl (lv_at hl 1 rfl) ?_
      refine lv_bipush (v := 12) hx hb dK0_fitsKind_45 (by decide) ?_
      refine lv_icmp_gt (tgt := 54) hx hb dK0_fitsKind_47 (by decide) (fun hc => ?_) (fun hc => ?_)
      · replace hm := ift hm hc
        refine lv_iconst (v := 0) hx hb dK0_fitsKind_54 (by decide) ?_
        replace hm := Option.some.inj hm
        subst hm
        exact k_retz hx hb hr hlocks rfl hP hD hS dK0_fitsKind_55
      · replace hm := iff_ hm hc
        refine lv_iconst (v := 1) hx hb dK0_fitsKind_50 (by decide) ?_
        refine lv_goto (tgt := 55) hx hb dK0_fitsKind_51 (by decide) ?_
        replace hm := Option.some.inj hm
        subst hm
        exact k_retz hx hb hr hlocks rfl hP hD hS dK0_fitsKind_55
  · replace hm := iff_ hm hc1_0
    by_cases hc1_1 : v0 = 1
    · replace hm := ift hm hc1_1
      refine topi hc1_1 ?_
      refine lv_tableIn (tgt := 40) hx hb dK0_fitsKind_1 (by decide) (by decide) rfl (by decide) ?_
      refine lv_iload_n hx hb dK0_fitsKind_40 rfl (lv_at hl 1 rfl) ?_
      refine lv_if_lt (tgt := 54) hx hb dK0_fitsKind_41 (by decide) (fun hc => ?_) (fun hc => ?_)
      · replace hm := ift hm hc
        refine lv_iconst (v := 0) hx hb dK0_fitsKind_54 (by decide) ?_
        replace hm := Option.some.inj hm
        subst hm
        exact k_retz hx hb hr hlocks rfl hP hD hS dK0_fitsKind_55
      · replace hm := iff_ hm hc
        refine lv_iload_n hx hb dK0_fitsKind_44 rfl (lv_at hl 1 rfl) ?_
        refine lv_bipush (v := 12) hx hb dK0_fitsKind_45 (by decide) ?_
        refine lv_icmp_gt (tgt := 54) hx hb dK0_fitsKind_47 (by decide) (fun hc => ?_) (fun hc => ?_)
        · replace hm := ift hm hc
          refine lv_iconst (v := 0) hx hb dK0_fitsKind_54 (by decide) ?_
          replace hm := Option.some.inj hm
          subst hm
          exact k_retz hx hb hr hlocks rfl hP hD hS dK0_fitsKind_55
        · replace hm := iff_ hm hc
          refine lv_iconst (v := 1) hx hb dK0_fitsKind_50 (by decide) ?_
          refine lv_goto (tgt := 55) hx hb dK0_fitsKind_51 (by decide) ?_
          replace hm := Option.some.inj hm
          subst hm
          exact k_retz hx hb hr hlocks rfl hP hD hS dK0_fitsKind_55
    · replace hm := iff_ hm hc1_1
      by_cases hc1_2 : v0 = 2
      · replace hm := ift hm hc1_2
        refine topi hc1_2 ?_
        refine lv_tableIn (tgt := 56) hx hb dK0_fitsKind_1 (by decide) (by decide) rfl (by decide) ?_
        refine lv_iload_n hx hb dK0_fitsKind_56 rfl (lv_at hl 1 rfl) ?_
        obtain ⟨x1, ec2, hm⟩ := bd1_s hm
        have hPc : va_P D vwCl [] H := va_P0
        have hDc : va_D A [] := va_D0
        refine k_calli0 (va_runS (As := [.int v1]) (rest := []) ⟨hx, hb, hml, hown, hts⟩ (kK0_isNode l D cI cZ cB cC H.size v1 x1 ec2) (va_cwS 1 hts (gdS wdt1_185 wdt1_186 wdt1_1 gkK0_isNode) rfl rfl rfl (by decide +kernel) ⟨Nat.le_of_ble_eq_true rfl, Nat.le_of_ble_eq_true rfl⟩) ⟨Pr_blind, fun U hU hW => ⟨rfl, Pr_at hK hN hPc hDc hU hW⟩⟩ rfl rfl hl.1 rfl (lv_room (Nat.le_of_ble_eq_true rfl)) dK0_fitsKind_57 ⟨Nat.le_of_ble_eq_true rfl, Nat.le_of_ble_eq_true rfl⟩) hP hD hS hA (fun H locs hP hD hS => ?_)
        obtain ⟨x3, ex3, hm⟩ := bd1_s hm
        obtain ⟨eex3, hzx3⟩ := bz_s ex3
        refine topi eex3 ?_
        replace hm := Option.some.inj hm
        subst hm
        exact k_retz hx hb hr hlocks (bz_n hzx3) hP hD hS dK0_fitsKind_60
      · replace hm := iff_ hm hc1_2
        by_cases hc1_3 : v0 = 3
        · replace hm := ift hm hc1_3
          refine topi hc1_3 ?_
          refine lv_tableIn (tgt := 56) hx hb dK0_fitsKind_1 (by decide) (by decide) rfl (by decide) ?_
          refine lv_iload_n hx hb dK0_fitsKind_56 rfl (lv_at hl 1 rfl) ?_
          obtain ⟨x4, ec5, hm⟩ := bd1_s hm
          have hPc : va_P D vwCl [] H := va_P0
          have hDc : va_D A [] := va_D0
          refine k_calli0 (va_runS (As := [.int v1]) (rest := []) ⟨hx, hb, hml, hown, hts⟩ (kK0_isNode l D cI cZ cB cC H.size v1 x4 ec5) (va_cwS 1 hts (gdS wdt1_185 wdt1_186 wdt1_1 gkK0_isNode) rfl rfl rfl (by decide +kernel) ⟨Nat.le_of_ble_eq_true rfl, Nat.le_of_ble_eq_true rfl⟩) ⟨Pr_blind, fun U hU hW => ⟨rfl, Pr_at hK hN hPc hDc hU hW⟩⟩ rfl rfl hl.1 rfl (lv_room (Nat.le_of_ble_eq_true rfl)) dK0_fitsKind_57 ⟨Nat.le_of_ble_eq_true rfl, Nat.le_of_ble_eq_true rfl⟩) hP hD hS hA (fun H locs hP hD hS => ?_)
          obtain ⟨x6, ex6, hm⟩ := bd1_s hm
          obtain ⟨eex6, hzx6⟩ := bz_s ex6
          refine topi eex6 ?_
          replace hm := Option.some.inj hm
          subst hm
          exact k_retz hx hb hr hlocks (bz_n hzx6) hP hD hS dK0_fitsKind_60
        · replace hm := iff_ hm hc1_3
          by_cases hc1_4 : v0 = 4
          · replace hm := ift hm hc1_4
            refine topi hc1_4 ?_
            refine lv_tableIn (tgt := 61) hx hb dK0_fitsKind_1 (by decide) (by decide) rfl (by decide) ?_
            refine lv_iload_n hx hb dK0_fitsKind_61 rfl (lv_at hl 1 rfl) ?_
            obtain ⟨x7, ec8, hm⟩ := bd1_s hm
            have hPc : va_P D vwCl [] H := va_P0
            have hDc : va_D A [] := va_D0
            refine k_calli0 (va_runS (As := [.int v1]) (rest := []) ⟨hx, hb, hml, hown, hts⟩ (kK0_isPredicate l D cI cZ cB cC H.size v1 x7 ec8) (va_cwS 1 hts (gdS wdt1_188 wdt1_189 wdt1_1 gkK0_isPredicate) rfl rfl rfl (by decide +kernel) ⟨Nat.le_of_ble_eq_true rfl, Nat.le_of_ble_eq_true rfl⟩) ⟨Pr_blind, fun U hU hW => ⟨rfl, Pr_at hK hN hPc hDc hU hW⟩⟩ rfl rfl hl.1 rfl (lv_room (Nat.le_of_ble_eq_true rfl)) dK0_fitsKind_62 ⟨Nat.le_of_ble_eq_true rfl, Nat.le_of_ble_eq_true rfl⟩) hP hD hS hA (fun H locs hP hD hS => ?_)
            obtain ⟨x9, ex9, hm⟩ := bd1_s hm
            obtain ⟨eex9, hzx9⟩ := bz_s ex9
            refine topi eex9 ?_
            replace hm := Option.some.inj hm
            subst hm
            exact k_retz hx hb hr hlocks (bz_n hzx9) hP hD hS dK0_fitsKind_65
          · replace hm := iff_ hm hc1_4
            by_cases hc1_5 : v0 = 5
            · replace hm := ift hm hc1_5
              refine topi hc1_5 ?_
              refine lv_tableIn (tgt := 61) hx hb dK0_fitsKind_1 (by decide) (by decide) rfl (by decide) ?_
              refine lv_iload_n hx hb dK0_fitsKind_61 rfl (lv_at hl 1 rfl) ?_
              obtain ⟨x10, ec11, hm⟩ := bd1_s hm
              have hPc : va_P D vwCl [] H := va_P0
              have hDc : va_D A [] := va_D0
              refine k_calli0 (va_runS (As := [.int v1]) (rest := []) ⟨hx, hb, hml, hown, hts⟩ (kK0_isPredicate l D cI cZ cB cC H.size v1 x10 ec11) (va_cwS 1 hts (gdS wdt1_188 wdt1_189 wdt1_1 gkK0_isPredicate) rfl rfl rfl (by decide +kernel) ⟨Nat.le_of_ble_eq_true rfl, Nat.le_of_ble_eq_true rfl⟩) ⟨Pr_blind, fun U hU hW => ⟨rfl, Pr_at hK hN hPc hDc hU hW⟩⟩ rfl rfl hl.1 rfl (lv_room (Nat.le_of_ble_eq_true rfl)) dK0_fitsKind_62 ⟨Nat.le_of_ble_eq_true rfl, Nat.le_of_ble_eq_true rfl⟩) hP hD hS hA (fun H locs hP hD hS => ?_)
              obtain ⟨x12, ex12, hm⟩ := bd1_s hm
              obtain ⟨eex12, hzx12⟩ := bz_s ex12
              refine topi eex12 ?_
              replace hm := Option.some.inj hm
              subst hm
              exact k_retz hx hb hr hlocks (bz_n hzx12) hP hD hS dK0_fitsKind_65
            · replace hm := iff_ hm hc1_5
              refine lv_tableOut (tgt := 66) hx hb dK0_fitsKind_1 (tabout6_0 hc1_0 hc1_1 hc1_2 hc1_3 hc1_4 hc1_5) (by decide) ?_
              refine lv_iconst (v := 0) hx hb dK0_fitsKind_66 (by decide) ?_
              replace hm := Option.some.inj hm
              subst hm
              exact k_retz hx hb hr hlocks rfl hP hD hS dK0_fitsKind_67
def mK2_add (rn : Int32) (rki : Nat → Int32) (rta : Nat → Int32) (rpr : Nat → Int32) (rnu : Nat → Int32) (v1 : Int32) (v2 : Int32) (v3 : Int32) (v4 : Int32) : Option (Int32 × Int32 × (Nat → Int32) × (Nat → Int32) × (Nat → Int32) × (Nat → Int32)) :=
  if rn < 10 then
  (bd1 (wrt rki 10 rn v1) fun x1 => bd1 (wrt rta 10 rn v2) fun x2 => bd1 (wrt rpr 10 rn v3) fun x3 => bd1 (wrt rnu 10 rn v4) fun x4 => bd1 (some (rn + 1)) fun x5 => some (x5 - 1, x5, x1, x2, x3, x4))
  else
  (some ((-3), rn, rki, rta, rpr, rnu))
abbrev rmK2_add : Room := { frames := 0, cells := 0, slots := 0, locals := 0 }
set_option maxHeartbeats 4000000 in
set_option maxRecDepth 100000 in
theorem kK2_add (l : Launch) (D : va_G) (cI cZ cB cC : ClassId) (sz : Nat) (ra : Nat) (ra1 : Nat) (ra2 : Nat) (ra3 : Nat) (ra4 : Nat) (rn : Int32) (rki : Nat → Int32) (rta : Nat → Int32) (rpr : Nat → Int32) (rnu : Nat → Int32) (v1 : Int32) (v2 : Int32) (v3 : Int32) (v4 : Int32) (r0 : Int32) (rn_r : Int32) (rki_r : Nat → Int32) (rta_r : Nat → Int32) (rpr_r : Nat → Int32) (rnu_r : Nat → Int32) (hm : mK2_add rn rki rta rpr rnu v1 v2 v3 v4 = some (r0, rn_r, rki_r, rta_r, rpr_r, rnu_r)) : Met l yK2_add wsK2_add rmK2_add (va_Pc [.ref ra, .int v1, .int v2, .int v3, .int v4] (Pr D (tyL cI cZ cB cC) sz (wR ra ra1 ra2 ra3 ra4 cI cZ cB cC rn rki rta rpr rnu))) (QI D (va_A (wR ra ra1 ra2 ra3 ra4 cI cZ cB cC rn rki rta rpr rnu) sz) r0 (wR ra ra1 ra2 ra3 ra4 cI cZ cB cC rn_r rki_r rta_r rpr_r rnu_r)) 0 0 (va_A (wR ra ra1 ra2 ra3 ra4 cI cZ cB cC rn rki rta rpr rnu) sz) := by
  refine Met.ofW (cc := cK2_add) (maxL := 5) (ret := (some .int)) (by decide) rfl ?_
  intro p e s m args below meth c s₁ B hml hv
  obtain ⟨rfl, hsz, hP, hK, hD0, hN⟩ := hv
  have hx := B.exec
  have hb := B.bytes
  have hr := B.returns
  have hts := htsA (atoms_spec (ws := wsK2_add) B.pre)
  have hown : s.vm.findClass RK2 = some m.cls := findClass_of_methodNamed B.named
  have hlocks := B.notSynchronized
  subst hsz
  have hD := hD0.self (sz := s.heap.size)
  generalize hAe : va_A (wR ra ra1 ra2 ra3 ra4 cI cZ cB cC rn rki rta rpr rnu) s.heap.size = A at hD ⊢
  have hA : ∀ q : Nat, s.heap.size ≤ q → A q := fun q h => by rw [← hAe]; exact Or.inr h
  refine kstart (A := A) hP (fun H hP hS => ?_)
  have hl := lv_entry ([.ref ra, .int v1, .int v2, .int v3, .int v4]) (n := 5) (Nat.le_of_ble_eq_true rfl)
  rw [lg_entry_eq]
  generalize (lg_sl ([.ref ra, .int v1, .int v2, .int v3, .int v4]) ++ List.replicate (5 - (lg_sl ([.ref ra, .int v1, .int v2, .int v3, .int v4])).length) Slot.unset).toArray = ls at hl ⊢
  have hl : lv_has ls 5 [(0, .ref ra), (1, .int v1), (2, .int v2), (3, .int v3), (4, .int v4)] := hl
  unfold mK2_add at hm
  refine lv_aload_n hx hb dK2_add_0 rfl (lv_at hl 0 rfl) ?_
  refine va_get (D := D) (ci := 2) (v := .int rn) (C := RK2) (T := TK2) (N := 5) hx hb hts inK2 hown hK hP 0 rfl rfl 4 (by decide) (hts _ wdt1_60) (fun _ h9 => h9) rfl dK2_add_1 ?_
  refine lv_bipush (v := 10) hx hb dK2_add_4 (by decide) ?_
  refine lv_icmp_lt (tgt := 12) hx hb dK2_add_6 (by decide) (fun hc => ?_) (fun hc => ?_)
  · replace hm := ift hm hc
    refine lv_aload_n hx hb dK2_add_12 rfl (lv_at hl 0 rfl) ?_
    refine va_get (D := D) (ci := 2) (v := .ref ra1) (C := RK2) (T := TK2) (N := 5) hx hb hts inK2 hown hK hP 0 rfl rfl 0 (by decide) (hts _ wdt1_52) (fun _ h9 => h9) rfl dK2_add_13 ?_
    refine lv_aload_n hx hb dK2_add_16 rfl (lv_at hl 0 rfl) ?_
    refine va_get (D := D) (ci := 2) (v := .int rn) (C := RK2) (T := TK2) (N := 5) hx hb hts inK2 hown hK hP 0 rfl rfl 4 (by decide) (hts _ wdt1_60) (fun _ h9 => h9) rfl dK2_add_17 ?_
    refine lv_iload_n hx hb dK2_add_20 rfl (lv_at hl 1 rfl) ?_
    obtain ⟨x1, ex1, hm⟩ := bd1_s hm
    obtain ⟨hix1, ex1⟩ := wrt_s ex1
    refine va_iast hx hb hK hP hD hS 1 0 rfl rfl hix1 dK2_add_21 (fun H locs hP hD hS => ?_)
    rw [ex1] at hP hD
    have hP : va_P D vwCl (wR ra ra1 ra2 ra3 ra4 cI cZ cB cC rn x1 rta rpr rnu) H := hP
    have hD : va_D A (wR ra ra1 ra2 ra3 ra4 cI cZ cB cC rn x1 rta rpr rnu) := hD
    refine lv_aload_n hx hb dK2_add_22 rfl (lv_at hl 0 rfl) ?_
    refine va_get (D := D) (ci := 2) (v := .ref ra2) (C := RK2) (T := TK2) (N := 5) hx hb hts inK2 hown hK hP 0 rfl rfl 1 (by decide) (hts _ wdt1_54) (fun _ h9 => h9) rfl dK2_add_23 ?_
    refine lv_aload_n hx hb dK2_add_26 rfl (lv_at hl 0 rfl) ?_
    refine va_get (D := D) (ci := 2) (v := .int rn) (C := RK2) (T := TK2) (N := 5) hx hb hts inK2 hown hK hP 0 rfl rfl 4 (by decide) (hts _ wdt1_60) (fun _ h9 => h9) rfl dK2_add_27 ?_
    refine lv_iload_n hx hb dK2_add_30 rfl (lv_at hl 2 rfl) ?_
    obtain ⟨x2, ex2, hm⟩ := bd1_s hm
    obtain ⟨hix2, ex2⟩ := wrt_s ex2
    refine va_iast hx hb hK hP hD hS 2 0 rfl rfl hix2 dK2_add_31 (fun H locs hP hD hS => ?_)
    rw [ex2] at hP hD
    have hP : va_P D vwCl (wR ra ra1 ra2 ra3 ra4 cI cZ cB cC rn x1 x2 rpr rnu) H := hP
    have hD : va_D A (wR ra ra1 ra2 ra3 ra4 cI cZ cB cC rn x1 x2 rpr rnu) := hD
    refine lv_aload_n hx hb dK2_add_32 rfl (lv_at hl 0 rfl) ?_
    refine va_get (D := D) (ci := 2) (v := .ref ra3) (C := RK2) (T := TK2) (N := 5) hx hb hts inK2 hown hK hP 0 rfl rfl 2 (by decide) (hts _ wdt1_56) (fun _ h9 => h9) rfl dK2_add_33 ?_
    refine lv_aload_n hx hb dK2_add_36 rfl (lv_at hl 0 rfl) ?_
    refine va_get (D := D) (ci := 2) (v := .int rn) (C := RK2) (T := TK2) (N := 5) hx hb hts inK2 hown hK hP 0 rfl rfl 4 (by decide) (hts _ wdt1_60) (fun _ h9 => h9) rfl dK2_add_37 ?_
    refine lv_iload_n hx hb dK2_add_40 rfl (lv_at hl 3 rfl) ?_
    obtain ⟨x3, ex3, hm⟩ := bd1_s hm
    obtain ⟨hix3, ex3⟩ := wrt_s ex3
    refine va_iast hx hb hK hP hD hS 3 0 rfl rfl hix3 dK2_add_41 (fun H locs hP hD hS => ?_)
    rw [ex3] at hP hD
    have hP : va_P D vwCl (wR ra ra1 ra2 ra3 ra4 cI cZ cB cC rn x1 x2 x3 rnu) H := hP
    have hD : va_D A (wR ra ra1 ra2 ra3 ra4 cI cZ cB cC rn x1 x2 x3 rnu) := hD
    refine lv_aload_n hx hb dK2_add_42 rfl (lv_at hl 0 rfl) ?_
    refine va_get (D := D) (ci := 2) (v := .ref ra4) (C := RK2) (T := TK2) (N := 5) hx hb hts inK2 hown hK hP 0 rfl rfl 3 (by decide) (hts _ wdt1_58) (fun _ h9 => h9) rfl dK2_add_43 ?_
    refine lv_aload_n hx hb dK2_add_46 rfl (lv_at hl 0 rfl) ?_
    refine va_get (D := D) (ci := 2) (v := .int rn) (C := RK2) (T := TK2) (N := 5) hx hb hts inK2 hown hK hP 0 rfl rfl 4 (by decide) (hts _ wdt1_60) (fun _ h9 => h9) rfl dK2_add_47 ?_
    refine lv_iload hx hb dK2_add_50 (lv_at hl 4 rfl) ?_
    obtain ⟨x4, ex4, hm⟩ := bd1_s hm
    obtain ⟨hix4, ex4⟩ := wrt_s ex4
    refine va_iast hx hb hK hP hD hS 4 0 rfl rfl hix4 dK2_add_52 (fun H locs hP hD hS => ?_)
    rw [ex4] at hP hD
    have hP : va_P D vwCl (wR ra ra1 ra2 ra3 ra4 cI cZ cB cC rn x1 x2 x3 x4) H := hP
    have hD : va_D A (wR ra ra1 ra2 ra3 ra4 cI cZ cB cC rn x1 x2 x3 x4) := hD
    refine lv_aload_n hx hb dK2_add_53 rfl (lv_at hl 0 rfl) ?_
    refine lv_dup hx hb dK2_add_54 rfl ?_
    refine va_get (D := D) (ci := 2) (v := .int rn) (C := RK2) (T := TK2) (N := 5) hx hb hts inK2 hown hK hP 0 rfl rfl 4 (by decide) (hts _ wdt1_60) (fun _ h9 => h9) rfl dK2_add_55 ?_
    refine lv_iconst (v := 1) hx hb dK2_add_58 (by decide) ?_
    refine lv_iadd hx hb dK2_add_59 ?_
    obtain ⟨x5, ex5, hm⟩ := bd1_s hm
    refine topi (Option.some.inj ex5) ?_
    refine va_put (D := D) (ci := 2) (v := .int x5) (ty := .int) (C := RK2) (T := TK2) (N := 5) hx hb hts inK2 tyK2 tyK2_ok nmK2 hown hK hP hD hS 0 rfl rfl 4 (by decide) (hts _ wdt1_60) (fun _ h9 => h9) rfl (by decide +kernel) rfl rfl (Nat.le_of_ble_eq_true rfl) dK2_add_60 (fun H locs hP hD hS => ?_)
    have hP : va_P D vwCl (wR ra ra1 ra2 ra3 ra4 cI cZ cB cC x5 x1 x2 x3 x4) H := hP
    have hD : va_D A (wR ra ra1 ra2 ra3 ra4 cI cZ cB cC x5 x1 x2 x3 x4) := hD
    refine lv_aload_n hx hb dK2_add_63 rfl (lv_at hl 0 rfl) ?_
    refine va_get (D := D) (ci := 2) (v := .int x5) (C := RK2) (T := TK2) (N := 5) hx hb hts inK2 hown hK hP 0 rfl rfl 4 (by decide) (hts _ wdt1_60) (fun _ h9 => h9) rfl dK2_add_64 ?_
    refine lv_iconst (v := 1) hx hb dK2_add_67 (by decide) ?_
    refine lv_isub hx hb dK2_add_68 ?_
    replace hm := Option.some.inj hm
    simp only [Prod.mk.injEq] at hm
    obtain ⟨rfl, rfl, rfl, rfl, rfl, rfl⟩ := hm
    exact k_reti hx hb hr hlocks hP hD hS dK2_add_69
  · replace hm := iff_ hm hc
    refine lv_bipush (v := (-3)) hx hb dK2_add_9 (by decide) ?_
    replace hm := Option.some.inj hm
    simp only [Prod.mk.injEq] at hm
    obtain ⟨rfl, rfl, rfl, rfl, rfl, rfl⟩ := hm
    exact k_reti hx hb hr hlocks hP hD hS dK2_add_11
def mK0_rule (run : Int32) (ruki : Nat → Int32) (ruta : Nat → Int32) (rupr : Nat → Int32) (runu : Nat → Int32) (v1 : Int32) (v2 : Int32) (v3 : Int32) (v4 : Int32) : Option (Int32 × Int32 × (Nat → Int32) × (Nat → Int32) × (Nat → Int32) × (Nat → Int32)) :=
  bd1 (mK0_isNode v2) fun x1 => if x1 = 0 then
  (some ((-1), run, ruki, ruta, rupr, runu))
  else
  (bd1 (mK0_isPredicate v3) fun x3 => if x3 = 0 then
    (some ((-1), run, ruki, ruta, rupr, runu))
    else
    (bd1 (mK0_fitsKind v1 v4) fun x5 => if x5 = 0 then
      (some ((-1), run, ruki, ruta, rupr, runu))
      else
      (bd6 (mK2_add run ruki ruta rupr runu v1 v2 v3 v4) fun x7 x8 x9 x10 x11 x12 => some (x7, x8, x9, x10, x11, x12))))
abbrev rmK0_rule : Room := { frames := 2, cells := 0, slots := 0, locals := 41 }
set_option maxHeartbeats 4000000 in
set_option maxRecDepth 100000 in
theorem kK0_rule (l : Launch) (D : va_G) (cI cZ cB cC : ClassId) (sz : Nat) (oa : Nat) (tra : Nat) (tra1 : Nat) (tra2 : Nat) (tra3 : Nat) (tia : Nat) (tia1 : Nat) (tia2 : Nat) (tia3 : Nat) (rua : Nat) (rua1 : Nat) (rua2 : Nat) (rua3 : Nat) (rua4 : Nat) (cha : Nat) (cha1 : Nat) (cha2 : Nat) (cha3 : Nat) (foa : Nat) (foa1 : Nat) (foa2 : Nat) (sba : Nat) (ocs : Int32) (oal : Int32) (olt : Int32) (ols : Int32) (trso : Int32) (trob : Nat → Int32) (trme : Nat → Int32) (trwi : Nat → Int32) (tiso : Int32) (tiob : Nat → Int32) (time : Nat → Int32) (tiwi : Nat → Int32) (run : Int32) (ruki : Nat → Int32) (ruta : Nat → Int32) (rupr : Nat → Int32) (runu : Nat → Int32) (chn : Int32) (chpu : Nat → Int32) (chco : Nat → Int32) (chwe : Nat → Int32) (fon : Int32) (fose : Nat → Int32) (fosu : Nat → Int32) (v1 : Int32) (v2 : Int32) (v3 : Int32) (v4 : Int32) (r0 : Int32) (run_r : Int32) (ruki_r : Nat → Int32) (ruta_r : Nat → Int32) (rupr_r : Nat → Int32) (runu_r : Nat → Int32) (hm : mK0_rule run ruki ruta rupr runu v1 v2 v3 v4 = some (r0, run_r, ruki_r, ruta_r, rupr_r, runu_r)) : Met l yK0_rule wsK0_rule rmK0_rule (va_Pc [.ref oa, .int v1, .int v2, .int v3, .int v4] (Pr D (tyL cI cZ cB cC) sz (wM oa tra tra1 tra2 tra3 tia tia1 tia2 tia3 rua rua1 rua2 rua3 rua4 cha cha1 cha2 cha3 foa foa1 foa2 sba cI cZ cB cC ocs oal olt ols trso trob trme trwi tiso tiob time tiwi run ruki ruta rupr runu chn chpu chco chwe fon fose fosu))) (QI D (va_A (wM oa tra tra1 tra2 tra3 tia tia1 tia2 tia3 rua rua1 rua2 rua3 rua4 cha cha1 cha2 cha3 foa foa1 foa2 sba cI cZ cB cC ocs oal olt ols trso trob trme trwi tiso tiob time tiwi run ruki ruta rupr runu chn chpu chco chwe fon fose fosu) sz) r0 (wM oa tra tra1 tra2 tra3 tia tia1 tia2 tia3 rua rua1 rua2 rua3 rua4 cha cha1 cha2 cha3 foa foa1 foa2 sba cI cZ cB cC ocs oal olt ols trso trob trme trwi tiso tiob time tiwi run_r ruki_r ruta_r rupr_r runu_r chn chpu chco chwe fon fose fosu)) 0 0 (va_A (wM oa tra tra1 tra2 tra3 tia tia1 tia2 tia3 rua rua1 rua2 rua3 rua4 cha cha1 cha2 cha3 foa foa1 foa2 sba cI cZ cB cC ocs oal olt ols trso trob trme trwi tiso tiob time tiwi run ruki ruta rupr runu chn chpu chco chwe fon fose fosu) sz) := by
  refine Met.ofW (cc := cK0_rule) (maxL := 5) (ret := (some .int)) (by decide) rfl ?_
  intro p e s m args below meth c s₁ B hml hv
  obtain ⟨rfl, hsz, hP, hK, hD0, hN⟩ := hv
  have hx := B.exec
  have hb := B.bytes
  have hr := B.returns
  have hts := htsA (atoms_spec (ws := wsK0_rule) B.pre)
  have hown : s.vm.findClass RK0 = some m.cls := findClass_of_methodNamed B.named
  have hlocks := B.notSynchronized
  subst hsz
  have hD := hD0.self (sz := s.heap.size)
  generalize hAe : va_A (wM oa tra tra1 tra2 tra3 tia tia1 tia2 tia3 rua rua1 rua2 rua3 rua4 cha cha1 cha2 cha3 foa foa1 foa2 sba cI cZ cB cC ocs oal olt ols trso trob trme trwi tiso tiob time tiwi run ruki ruta rupr runu chn chpu chco chwe fon fose fosu) s.heap.size = A at hD ⊢
  have hA : ∀ q : Nat, s.heap.size ≤ q → A q := fun q h => by rw [← hAe]; exact Or.inr h
  refine kstart (A := A) hP (fun H hP hS => ?_)
  have hl := lv_entry ([.ref oa, .int v1, .int v2, .int v3, .int v4]) (n := 5) (Nat.le_of_ble_eq_true rfl)
  rw [lg_entry_eq]
  generalize (lg_sl ([.ref oa, .int v1, .int v2, .int v3, .int v4]) ++ List.replicate (5 - (lg_sl ([.ref oa, .int v1, .int v2, .int v3, .int v4])).length) Slot.unset).toArray = ls at hl ⊢
  have hl : lv_has ls 5 [(0, .ref oa), (1, .int v1), (2, .int v2), (3, .int v3), (4, .int v4)] := hl
  unfold mK0_rule at hm
  refine lv_iload_n hx hb dK0_rule_0 rfl (lv_at hl 2 rfl) ?_
  obtain ⟨x1, ec2, hm⟩ := bd1_s hm
  have hPc : va_P D vwCl [] H := va_P0
  have hDc : va_D A [] := va_D0
  refine k_calli0 (va_runS (As := [.int v2]) (rest := []) ⟨hx, hb, hml, hown, hts⟩ (kK0_isNode l D cI cZ cB cC H.size v2 x1 ec2) (va_cwS 1 hts (gdS wdt1_185 wdt1_186 wdt1_1 gkK0_isNode) rfl rfl rfl (by decide +kernel) ⟨Nat.le_of_ble_eq_true rfl, Nat.le_of_ble_eq_true rfl⟩) ⟨Pr_blind, fun U hU hW => ⟨rfl, Pr_at hK hN hPc hDc hU hW⟩⟩ rfl rfl hl.1 rfl (lv_room (Nat.le_of_ble_eq_true rfl)) dK0_rule_1 ⟨Nat.le_of_ble_eq_true rfl, Nat.le_of_ble_eq_true rfl⟩) hP hD hS hA (fun H locs hP hD hS => ?_)
  refine lv_if_eq (tgt := 23) hx hb dK0_rule_4 (by decide) (fun hc => ?_) (fun hc => ?_)
  · replace hm := ift hm hc
    refine lv_iconst (v := (-1)) hx hb dK0_rule_23 (by decide) ?_
    replace hm := Option.some.inj hm
    simp only [Prod.mk.injEq] at hm
    obtain ⟨rfl, rfl, rfl, rfl, rfl, rfl⟩ := hm
    exact k_reti hx hb hr hlocks hP hD hS dK0_rule_24
  · replace hm := iff_ hm hc
    refine lv_iload_n hx hb dK0_rule_7 rfl (lv_at hl 3 rfl) ?_
    obtain ⟨x3, ec4, hm⟩ := bd1_s hm
    have hPc : va_P D vwCl [] H := va_P0
    have hDc : va_D A [] := va_D0
    refine k_calli0 (va_runS (As := [.int v3]) (rest := []) ⟨hx, hb, hml, hown, hts⟩ (kK0_isPredicate l D cI cZ cB cC H.size v3 x3 ec4) (va_cwS 1 hts (gdS wdt1_188 wdt1_189 wdt1_1 gkK0_isPredicate) rfl rfl rfl (by decide +kernel) ⟨Nat.le_of_ble_eq_true rfl, Nat.le_of_ble_eq_true rfl⟩) ⟨Pr_blind, fun U hU hW => ⟨rfl, Pr_at hK hN hPc hDc hU hW⟩⟩ rfl rfl hl.1 rfl (lv_room (Nat.le_of_ble_eq_true rfl)) dK0_rule_8 ⟨Nat.le_of_ble_eq_true rfl, Nat.le_of_ble_eq_true rfl⟩) hP hD hS hA (fun H locs hP hD hS => ?_)
    refine lv_if_eq (tgt := 23) hx hb dK0_rule_11 (by decide) (fun hc => ?_) (fun hc => ?_)
    · replace hm := ift hm hc
      refine lv_iconst (v := (-1)) hx hb dK0_rule_23 (by decide) ?_
      replace hm := Option.some.inj hm
      simp only [Prod.mk.injEq] at hm
      obtain ⟨rfl, rfl, rfl, rfl, rfl, rfl⟩ := hm
      exact k_reti hx hb hr hlocks hP hD hS dK0_rule_24
    · replace hm := iff_ hm hc
      refine lv_iload_n hx hb dK0_rule_14 rfl (lv_at hl 1 rfl) ?_
      refine lv_iload hx hb dK0_rule_15 (lv_at hl 4 rfl) ?_
      obtain ⟨x5, ec6, hm⟩ := bd1_s hm
      have hPc : va_P D vwCl [] H := va_P0
      have hDc : va_D A [] := va_D0
      refine k_calli0 (va_runS (As := [.int v1, .int v4]) (rest := []) ⟨hx, hb, hml, hown, hts⟩ (kK0_fitsKind l D cI cZ cB cC H.size v1 v4 x5 ec6) (va_cwS 2 hts (gdS wdt1_238 wdt1_239 wdt1_1 gkK0_fitsKind) rfl rfl rfl (by decide +kernel) ⟨Nat.le_of_ble_eq_true rfl, Nat.le_of_ble_eq_true rfl⟩) ⟨Pr_blind, fun U hU hW => ⟨rfl, Pr_at hK hN hPc hDc hU hW⟩⟩ rfl rfl hl.1 rfl (lv_room (Nat.le_of_ble_eq_true rfl)) dK0_rule_17 ⟨Nat.le_of_ble_eq_true rfl, Nat.le_of_ble_eq_true rfl⟩) hP hD hS hA (fun H locs hP hD hS => ?_)
      refine lv_if_ne (tgt := 25) hx hb dK0_rule_20 (by decide) (fun hc => ?_) (fun hc => ?_)
      · replace hm := iff_ hm hc
        refine lv_aload_n hx hb dK0_rule_25 rfl (lv_at hl 0 rfl) ?_
        refine va_get (D := D) (ci := 0) (v := .ref rua) (C := RK0) (T := TK0) (N := 10) hx hb hts inK0 hown hK hP 0 rfl rfl 2 (by decide) (hts _ wdt1_145) (fun _ h9 => h9) rfl dK0_rule_26 ?_
        refine lv_iload_n hx hb dK0_rule_29 rfl (lv_at hl 1 rfl) ?_
        refine lv_iload_n hx hb dK0_rule_30 rfl (lv_at hl 2 rfl) ?_
        refine lv_iload_n hx hb dK0_rule_31 rfl (lv_at hl 3 rfl) ?_
        refine lv_iload hx hb dK0_rule_32 (lv_at hl 4 rfl) ?_
        obtain ⟨x7, x8, x9, x10, x11, x12, ec13, hm⟩ := bd6_s hm
        have hPc := hP.sub (ws' := (wR rua rua1 rua2 rua3 rua4 cI cZ cB cC run ruki ruta rupr runu)) [9, 10, 11, 12, 13] rfl
        have hDc := hD.sub (ws' := (wR rua rua1 rua2 rua3 rua4 cI cZ cB cC run ruki ruta rupr runu)) [9, 10, 11, 12, 13] (by decide) rfl
        refine k_calli (wr := [(oa, .inr (0, [.ref tra, .ref tia, .ref rua, .ref cha, .ref foa, .ref sba, .int ocs, .int oal, .int olt, .int ols])), (tra, .inr (1, [.ref tra1, .ref tra2, .ref tra3, .int trso])), (tra1, .inl (cI, 72, .inl trob)), (tra2, .inl (cI, 12, .inl trme)), (tra3, .inl (cI, 12, .inl trwi)), (tia, .inr (1, [.ref tia1, .ref tia2, .ref tia3, .int tiso])), (tia1, .inl (cI, 72, .inl tiob)), (tia2, .inl (cI, 12, .inl time)), (tia3, .inl (cI, 12, .inl tiwi)), (cha, .inr (3, [.ref cha1, .ref cha2, .ref cha3, .int chn])), (cha1, .inl (cZ, 12, .inl chpu)), (cha2, .inl (cI, 12, .inl chco)), (cha3, .inl (cI, 12, .inl chwe)), (foa, .inr (4, [.ref foa1, .ref foa2, .int fon])), (foa1, .inl (cI, 30, .inl fose)), (foa2, .inl (cI, 30, .inl fosu))]) (w1 := (wR rua rua1 rua2 rua3 rua4 cI cZ cB cC x8 x9 x10 x11 x12)) (ws' := (wM oa tra tra1 tra2 tra3 tia tia1 tia2 tia3 rua rua1 rua2 rua3 rua4 cha cha1 cha2 cha3 foa foa1 foa2 sba cI cZ cB cC ocs oal olt ols trso trob trme trwi tiso tiob time tiwi x8 x9 x10 x11 x12 chn chpu chco chwe fon fose fosu)) (va_runV (As := [.int v1, .int v2, .int v3, .int v4]) (rest := []) ⟨hx, hb, hml, hown, hts⟩ (kK2_add l D cI cZ cB cC H.size rua rua1 rua2 rua3 rua4 run ruki ruta rupr runu v1 v2 v3 v4 x7 x8 x9 x10 x11 x12 ec13) (cwV 4 hts (gdV wdt2_1 wdt2_2 wdt2_3 wdt1_3 gkK2_add) rfl rfl rfl (by decide +kernel) ⟨Nat.le_of_ble_eq_true rfl, Nat.le_of_ble_eq_true rfl⟩) ⟨Pr_blind, va_recv hK hPc (ci := 2) (q0 := 0) rfl rfl, fun U hU hW => ⟨rfl, Pr_at hK hN hPc hDc hU hW⟩⟩ rfl rfl hl.1 rfl (lv_room (Nat.le_of_ble_eq_true rfl)) dK0_rule_34 ⟨Nat.le_of_ble_eq_true rfl, Nat.le_of_ble_eq_true rfl⟩) hP hD hS hA [9, 10, 11, 12, 13] [0, 1, 2, 3, 4, 5, 6, 7, 8, 14, 15, 16, 17, 18, 19, 20] [0, 1, 2, 3, 4, 5, 6, 7, 8, 16, 17, 18, 19, 20, 9, 10, 11, 12, 13, 14, 15] rfl rfl (by decide) (by decide) (by decide) rfl (fun H locs hP hD hS => ?_)
        replace hm := Option.some.inj hm
        simp only [Prod.mk.injEq] at hm
        obtain ⟨rfl, rfl, rfl, rfl, rfl, rfl⟩ := hm
        exact k_reti hx hb hr hlocks hP hD hS dK0_rule_37
      · replace hm := ift hm hc
        refine lv_iconst (v := (-1)) hx hb dK0_rule_23 (by decide) ?_
        replace hm := Option.some.inj hm
        simp only [Prod.mk.injEq] at hm
        obtain ⟨rfl, rfl, rfl, rfl, rfl, rfl⟩ := hm
        exact k_reti hx hb hr hlocks hP hD hS dK0_rule_24
def mK1_membersOf (tme : Nat → Int32) (v1 : Int32) : Option (Int32) :=
  bd1 (rd tme 12 v1) fun x1 => some x1
abbrev rmK1_membersOf : Room := { frames := 0, cells := 0, slots := 0, locals := 0 }
set_option maxHeartbeats 4000000 in
set_option maxRecDepth 100000 in
theorem kK1_membersOf (l : Launch) (D : va_G) (cI cZ cB cC : ClassId) (sz : Nat) (ta : Nat) (ta1 : Nat) (ta2 : Nat) (ta3 : Nat) (tso : Int32) (tob : Nat → Int32) (tme : Nat → Int32) (twi : Nat → Int32) (v1 : Int32) (r0 : Int32) (hm : mK1_membersOf tme v1 = some r0) : Met l yK1_membersOf wsK1_membersOf rmK1_membersOf (va_Pc [.ref ta, .int v1] (Pr D (tyL cI cZ cB cC) sz (wT ta ta1 ta2 ta3 cI cZ cB cC tso tob tme twi))) (QI D (va_A (wT ta ta1 ta2 ta3 cI cZ cB cC tso tob tme twi) sz) r0 (wT ta ta1 ta2 ta3 cI cZ cB cC tso tob tme twi)) 0 0 (va_A (wT ta ta1 ta2 ta3 cI cZ cB cC tso tob tme twi) sz) := by
  refine Met.ofW (cc := cK1_membersOf) (maxL := 2) (ret := (some .int)) (by decide) rfl ?_
  intro p e s m args below meth c s₁ B hml hv
  obtain ⟨rfl, hsz, hP, hK, hD0, hN⟩ := hv
  have hx := B.exec
  have hb := B.bytes
  have hr := B.returns
  have hts := htsA (atoms_spec (ws := wsK1_membersOf) B.pre)
  have hown : s.vm.findClass RK1 = some m.cls := findClass_of_methodNamed B.named
  have hlocks := B.notSynchronized
  subst hsz
  have hD := hD0.self (sz := s.heap.size)
  generalize hAe : va_A (wT ta ta1 ta2 ta3 cI cZ cB cC tso tob tme twi) s.heap.size = A at hD ⊢
  have hA : ∀ q : Nat, s.heap.size ≤ q → A q := fun q h => by rw [← hAe]; exact Or.inr h
  refine kstart (A := A) hP (fun H hP hS => ?_)
  have hl := lv_entry ([.ref ta, .int v1]) (n := 2) (Nat.le_of_ble_eq_true rfl)
  rw [lg_entry_eq]
  generalize (lg_sl ([.ref ta, .int v1]) ++ List.replicate (2 - (lg_sl ([.ref ta, .int v1])).length) Slot.unset).toArray = ls at hl ⊢
  have hl : lv_has ls 2 [(0, .ref ta), (1, .int v1)] := hl
  unfold mK1_membersOf at hm
  refine lv_aload_n hx hb dK1_membersOf_0 rfl (lv_at hl 0 rfl) ?_
  refine va_get (D := D) (ci := 1) (v := .ref ta2) (C := RK1) (T := TK1) (N := 4) hx hb hts inK1 hown hK hP 0 rfl rfl 1 (by decide) (hts _ wdt1_33) (fun _ h9 => h9) rfl dK1_membersOf_1 ?_
  refine lv_iload_n hx hb dK1_membersOf_4 rfl (lv_at hl 1 rfl) ?_
  obtain ⟨x1, ex1, hm⟩ := bd1_s hm
  obtain ⟨hix1, ex1⟩ := rd_s ex1
  refine va_iald hx hb hK hP 2 0 rfl rfl hix1 dK1_membersOf_5 ?_
  refine topi ex1 ?_
  replace hm := Option.some.inj hm
  subst hm
  exact k_reti hx hb hr hlocks hP hD hS dK1_membersOf_6
