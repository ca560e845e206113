def mK5_isFound (m_found : Int32) (v1 : Int32) : Option (Int32) :=
  bd1 (mK5_in v1 0 (m_found - 1)) fun x1 => bd1 (bz x1) fun x3 => some x3
abbrev rmK5_isFound : Room := { frames := 1, cells := 0, slots := 0, locals := 22 }
set_option maxHeartbeats 4000000 in
set_option maxRecDepth 100000 in
theorem kK5_isFound (l : Launch) (D : va_G) (cI cZ cB cC : ClassId) (sz : Nat) (m_a : Nat) (m_there_a : Nat) (m_now_a : Nat) (m_kinds_a : Nat) (m_targets_a : Nat) (m_predicates_a : Nat) (m_numbers_a : Nat) (m_puts_a : Nat) (m_codes_a : Nat) (m_weights_a : Nat) (m_sets_a : Nat) (m_picks_a : Nat) (m_classes_a : Nat) (m_steps_a : Nat) (m_told_a : Nat) (m_rules : Int32) (m_changes : Int32) (m_mostTries : Int32) (m_tried : Int32) (m_settled : Int32) (m_found : Int32) (m_isCovered : Int32) (m_covered : Int32) (m_toldMany : Int32) (m_there : Nat → Int32) (m_now : Nat → Int32) (m_kinds : Nat → Int32) (m_targets : Nat → Int32) (m_predicates : Nat → Int32) (m_numbers : Nat → Int32) (m_puts : Nat → Int32) (m_codes : Nat → Int32) (m_weights : Nat → Int32) (m_sets : Nat → Int32) (m_picks : Nat → Int32) (m_classes : Nat → Int32) (m_steps : Nat → Int32) (m_told : Nat → Int32) (v1 : Int32) (r0 : Int32) (hm : mK5_isFound m_found v1 = some r0) : Met l yK5_isFound wsK5_isFound rmK5_isFound (va_Pc [.ref m_a, .int v1] (Pr D (tyL cI cZ cB cC) sz (wX m_a m_there_a m_now_a m_kinds_a m_targets_a m_predicates_a m_numbers_a m_puts_a m_codes_a m_weights_a m_sets_a m_picks_a m_classes_a m_steps_a m_told_a cI cZ cB cC m_rules m_changes m_mostTries m_tried m_settled m_found m_isCovered m_covered m_toldMany m_there m_now m_kinds m_targets m_predicates m_numbers m_puts m_codes m_weights m_sets m_picks m_classes m_steps m_told))) (QI D (va_A (wX m_a m_there_a m_now_a m_kinds_a m_targets_a m_predicates_a m_numbers_a m_puts_a m_codes_a m_weights_a m_sets_a m_picks_a m_classes_a m_steps_a m_told_a cI cZ cB cC m_rules m_changes m_mostTries m_tried m_settled m_found m_isCovered m_covered m_toldMany m_there m_now m_kinds m_targets m_predicates m_numbers m_puts m_codes m_weights m_sets m_picks m_classes m_steps m_told) sz) r0 (wX m_a m_there_a m_now_a m_kinds_a m_targets_a m_predicates_a m_numbers_a m_puts_a m_codes_a m_weights_a m_sets_a m_picks_a m_classes_a m_steps_a m_told_a cI cZ cB cC m_rules m_changes m_mostTries m_tried m_settled m_found m_isCovered m_covered m_toldMany m_there m_now m_kinds m_targets m_predicates m_numbers m_puts m_codes m_weights m_sets m_picks m_classes m_steps m_told)) 0 0 (va_A (wX m_a m_there_a m_now_a m_kinds_a m_targets_a m_predicates_a m_numbers_a m_puts_a m_codes_a m_weights_a m_sets_a m_picks_a m_classes_a m_steps_a m_told_a cI cZ cB cC m_rules m_changes m_mostTries m_tried m_settled m_found m_isCovered m_covered m_toldMany m_there m_now m_kinds m_targets m_predicates m_numbers m_puts m_codes m_weights m_sets m_picks m_classes m_steps m_told) sz) := by
  refine Met.ofW (cc := cK5_isFound) (maxL := 2) (ret := (some .boolean)) (by decide) rfl ?_
  intro p e s m args below meth c s₁ B hml hv
  obtain ⟨rfl, hsz, hP, hK, hD0, hN⟩ := hv
  have hx := B.exec
  have hb := B.bytes
  have hr := B.returns
  have hts := htsA (atoms_spec (ws := wsK5_isFound) B.pre)
  have hown : s.vm.findClass RK5 = some m.cls := findClass_of_methodNamed B.named
  have hlocks := B.notSynchronized
  subst hsz
  have hD := hD0.self (sz := s.heap.size)
  generalize hAe : va_A (wX m_a m_there_a m_now_a m_kinds_a m_targets_a m_predicates_a m_numbers_a m_puts_a m_codes_a m_weights_a m_sets_a m_picks_a m_classes_a m_steps_a m_told_a cI cZ cB cC m_rules m_changes m_mostTries m_tried m_settled m_found m_isCovered m_covered m_toldMany m_there m_now m_kinds m_targets m_predicates m_numbers m_puts m_codes m_weights m_sets m_picks m_classes m_steps m_told) s.heap.size = A at hD ⊢
  have hA : ∀ q : Nat, s.heap.size ≤ q → A q := fun q h => by rw [← hAe]; exact Or.inr h
  refine kstart (A := A) hP (fun H hP hS => ?_)
  have hl := lv_entry ([.ref m_a, .int v1]) (n := 2) (Nat.le_of_ble_eq_true rfl)
  rw [lg_entry_eq]
  generalize (lg_sl ([.ref m_a, .int v1]) ++ List.replicate (2 - (lg_sl ([.ref m_a, .int v1])).length) Slot.unset).toArray = ls at hl ⊢
  have hl : lv_has ls 2 [(0, .ref m_a), (1, .int v1)] := hl
  unfold mK5_isFound at hm
  refine lv_iload_n hx hb dK5_isFound_0 rfl (lv_at hl 1 rfl) ?_
  refine lv_iconst (v := 0) hx hb dK5_isFound_1 (by decide) ?_
  refine lv_aload_n hx hb dK5_isFound_2 rfl (lv_at hl 0 rfl) ?_
  refine va_get (D := D) (ci := 5) (v := .int m_found) (C := RK5) (T := TK5) (N := 23) hx hb hts inK5 hown hK hP 0 rfl rfl 14 (by decide) (hts _ wdt3_200) (fun _ h9 => h9) rfl dK5_isFound_3 ?_
  refine lv_iconst (v := 1) hx hb dK5_isFound_6 (by decide) ?_
  refine lv_isub hx hb dK5_isFound_7 ?_
  obtain ⟨x1, ec2, hm⟩ := bd1_s hm
  have hPc : va_P D vwCl [] H := va_P0
  have hDc : va_D A [] := va_D0
  refine k_calli0 (va_runS (As := [.int v1, .int 0, .int (m_found - 1)]) (rest := []) ⟨hx, hb, hml, hown, hts⟩ (kK5_in l D cI cZ cB cC H.size v1 0 (m_found - 1) x1 ec2) (va_cwS 3 hts (gdS wdt4_23 wdt4_24 wdt1_10 gkK5_in) rfl rfl rfl (by decide +kernel) ⟨Nat.le_of_ble_eq_true rfl, Nat.le_of_ble_eq_true rfl⟩) ⟨Pr_blind, fun U hU hW => ⟨rfl, Pr_at hK hN hPc hDc hU hW⟩⟩ rfl rfl hl.1 rfl (lv_room (Nat.le_of_ble_eq_true rfl)) dK5_isFound_8 ⟨Nat.le_of_ble_eq_true rfl, Nat.le_of_ble_eq_true rfl⟩) hP hD hS hA (fun H locs hP hD hS => ?_)
  obtain ⟨x3, ex3, hm⟩ := bd1_s hm
  obtain ⟨eex3, hzx3⟩ := bz_s ex3
  refine topi eex3 ?_
  replace hm := Option.some.inj hm
  subst hm
  exact k_retz hx hb hr hlocks (bz_n hzx3) hP hD hS dK5_isFound_11
def mK5_member_A4 : Option (Int32) :=
  some ((-2))
def mK5_member_B4 (v0 : Int32) (v1 : Int32) (kx4 : Option (Int32)) (rc4 : Int32 → Int32 → Option (Int32)) (i2l4 : Int32) (i3l4 : Int32) : Option (Int32) :=
  if 12 ≤ i3l4 then
  (kx4)
  else
  (if v1 < 0 then
    (kx4)
    else
    (if ((v0 >>> (i3l4 &&& 31)) &&& 1) = 1 then
      (if i2l4 = 0 then
        (some i3l4)
        else
        (bd1 (some (i2l4 + (-1))) fun x2 => bd1 (some (i3l4 + 1)) fun x3 => rc4 x2 x3))
      else
      (bd1 (some (i3l4 + 1)) fun x1 => rc4 i2l4 x1)))
def mK5_member_L4 (v0 : Int32) (v1 : Int32) (kx4 : Option (Int32)) : Nat → Int32 → Int32 → Option (Int32)
  | 0, _, _ => none
  | n + 1, i2l4, i3l4 => mK5_member_B4 v0 v1 kx4 (mK5_member_L4 v0 v1 kx4 n) i2l4 i3l4
def mK5_member (v0 : Int32) (v1 : Int32) : Option (Int32) :=
  mK5_member_L4 v0 v1 (mK5_member_A4) 5000 v1 0
abbrev rmK5_member : Room := { frames := 0, cells := 0, slots := 0, locals := 0 }
set_option maxHeartbeats 4000000 in
set_option maxRecDepth 100000 in
theorem kK5_member (l : Launch) (D : va_G) (cI cZ cB cC : ClassId) (sz : Nat) (v0 : Int32) (v1 : Int32) (r0 : Int32) (hm : mK5_member v0 v1 = some r0) : Met l yK5_member wsK5_member rmK5_member (va_Pc [.int v0, .int v1] (Pr D (tyL cI cZ cB cC) sz [])) (QI D (va_A [] sz) r0 []) 0 0 (va_A [] sz) := by
  refine Met.ofW (cc := cK5_member) (maxL := 4) (ret := (some .int)) (by decide) rfl ?_
  intro p e s m args below meth c s₁ B hml hv
  obtain ⟨rfl, hsz, hP, hK, hD0, hN⟩ := hv
  have hx := B.exec
  have hb := B.bytes
  have hr := B.returns
  have hts := htsA (atoms_spec (ws := wsK5_member) B.pre)
  have hown : s.vm.findClass RK5 = some m.cls := findClass_of_methodNamed B.named
  have hlocks := B.notSynchronized
  subst hsz
  have hD := hD0.self (sz := s.heap.size)
  generalize hAe : va_A [] s.heap.size = A at hD ⊢
  have hA : ∀ q : Nat, s.heap.size ≤ q → A q := fun q h => by rw [← hAe]; exact Or.inr h
  refine kstart (A := A) hP (fun H hP hS => ?_)
  have hl := lv_entry ([.int v0, .int v1]) (n := 4) (Nat.le_of_ble_eq_true rfl)
  rw [lg_entry_eq]
  generalize (lg_sl ([.int v0, .int v1]) ++ List.replicate (4 - (lg_sl ([.int v0, .int v1])).length) Slot.unset).toArray = ls at hl ⊢
  have hl : lv_has ls 4 [(0, .int v0), (1, .int v1)] := hl
  unfold mK5_member at hm
  refine lv_iload_n hx hb dK5_member_0 rfl (lv_at hl 1 rfl) ?_
  refine lv_istore_n (lv' := [(2, .int v1), (0, .int v0), (1, .int v1)]) hx hb dK5_member_1 rfl hl (by decide) rfl (fun ls hl => ?_)
  refine lv_iconst (v := 0) hx hb dK5_member_2 (by decide) ?_
  refine lv_istore_n (lv' := [(3, .int 0), (2, .int v1), (0, .int v0), (1, .int v1)]) hx hb dK5_member_3 rfl hl (by decide) rfl (fun ls hl => ?_)
  have lx4 : ∀ (H : Heap) (locs : List Loc) (ls : Array Slot), mK5_member_A4 = some r0 → va_P D vwCl [] H → va_D A [] → va_S A s.heap H locs → lv_has ls 4 [] → W p l e (headSpec wsK5_member rmK5_member).room s m ([.int v0, .int v1] : List Value).toArray below meth c H locs 0 0 (MQ below (QI D A r0 []) ([.int v0, .int v1] : List Value).toArray s 0 0 A) (F0 m 38 ls []) := by
    intro H locs ls hm hP hD hS hl
    unfold mK5_member_A4 at hm
    refine lv_bipush (v := (-2)) hx hb dK5_member_38 (by decide) ?_
    replace hm := Option.some.inj hm
    subst hm
    exact k_reti hx hb hr hlocks hP hD hS dK5_member_40
  have lp4 : ∀ (n4 : Nat) (i2l4 : Int32) (i3l4 : Int32) (H : Heap) (locs : List Loc) (ls : Array Slot), mK5_member_L4 v0 v1 (mK5_member_A4) n4 i2l4 i3l4 = some r0 → va_P D vwCl [] H → va_D A [] → va_S A s.heap H locs → lv_has ls 4 [(3, .int i3l4), (2, .int i2l4), (0, .int v0), (1, .int v1)] → W p l e (headSpec wsK5_member rmK5_member).room s m ([.int v0, .int v1] : List Value).toArray below meth c H locs 0 0 (MQ below (QI D A r0 []) ([.int v0, .int v1] : List Value).toArray s 0 0 A) (F0 m 4 ls []) := by
    intro n4
    induction n4 with
    | zero => intro i2l4 i3l4 H locs ls hm; exact nomatch (show none = _ from hm)
    | succ n4 ih4 =>
      intro i2l4 i3l4 H locs ls hm hP hD hS hl
      replace hm : mK5_member_B4 v0 v1 (mK5_member_A4) (mK5_member_L4 v0 v1 (mK5_member_A4) n4) i2l4 i3l4 = some r0 := hm
      unfold mK5_member_B4 at hm
      refine lv_iload_n hx hb dK5_member_4 rfl (lv_at hl 0 rfl) ?_
      refine lv_bipush (v := 12) hx hb dK5_member_5 (by decide) ?_
      refine lv_icmp_ge (tgt := 38) hx hb dK5_member_7 (by decide) (fun hc => ?_) (fun hc => ?_)
      · replace hm := ift hm hc
        exact lx4  _ _ _ hm hP hD hS (lv_sub hl [] rfl)
      · replace hm := iff_ hm hc
        refine lv_iload_n hx hb dK5_member_10 rfl (lv_at hl 3 rfl) ?_
        refine lv_if_lt (tgt := 38) hx hb dK5_member_11 (by decide) (fun hc => ?_) (fun hc => ?_)
        · replace hm := ift hm hc
          exact lx4  _ _ _ hm hP hD hS (lv_sub hl [] rfl)
        · replace hm := iff_ hm hc
          refine lv_iload_n hx hb dK5_member_14 rfl (lv_at hl 2 rfl) ?_
          refine lv_iload_n hx hb dK5_member_15 rfl (lv_at hl 0 rfl) ?_
          refine lv_ishr hx hb dK5_member_16 ?_
          refine lv_iconst (v := 1) hx hb dK5_member_17 (by decide) ?_
          refine lv_iand hx hb dK5_member_18 ?_
          refine lv_iconst (v := 1) hx hb dK5_member_19 (by decide) ?_
          refine lv_icmp_ne (tgt := 32) hx hb dK5_member_20 (by decide) (fun hc => ?_) (fun hc => ?_)
          · replace hm := iff_ hm hc
            obtain ⟨x1, ex1, hm⟩ := bd1_s hm
            refine lv_iinc (v := x1) (lv' := [(3, .int x1), (2, .int i2l4), (0, .int v0), (1, .int v1)]) hx hb dK5_member_32 hl (k := 0) rfl (by rw [← Option.some.inj ex1]; rfl) (by decide) rfl (fun ls hl => ?_)
            refine lv_goto (tgt := 4) hx hb dK5_member_35 (by decide) ?_
            exact ih4 i2l4 x1 _ _ _ hm hP hD hS (lv_sub hl [0, 1, 2, 3] rfl)
          · replace hm := ift hm hc
            refine lv_iload_n hx hb dK5_member_23 rfl (lv_at hl 1 rfl) ?_
            refine lv_if_ne (tgt := 29) hx hb dK5_member_24 (by decide) (fun hc => ?_) (fun hc => ?_)
            · replace hm := iff_ hm hc
              obtain ⟨x2, ex2, hm⟩ := bd1_s hm
              refine lv_iinc (v := x2) (lv' := [(2, .int x2), (3, .int i3l4), (0, .int v0), (1, .int v1)]) hx hb dK5_member_29 hl (k := 1) rfl (by rw [← Option.some.inj ex2]; rfl) (by decide) rfl (fun ls hl => ?_)
              obtain ⟨x3, ex3, hm⟩ := bd1_s hm
              refine lv_iinc (v := x3) (lv' := [(3, .int x3), (2, .int x2), (0, .int v0), (1, .int v1)]) hx hb dK5_member_32 hl (k := 1) rfl (by rw [← Option.some.inj ex3]; rfl) (by decide) rfl (fun ls hl => ?_)
              refine lv_goto (tgt := 4) hx hb dK5_member_35 (by decide) ?_
              exact ih4 x2 x3 _ _ _ hm hP hD hS (lv_sub hl [0, 1, 2, 3] rfl)
            · replace hm := ift hm hc
              refine lv_iload_n hx hb dK5_member_27 rfl (lv_at hl 0 rfl) ?_
              replace hm := Option.some.inj hm
              subst hm
              exact k_reti hx hb hr hlocks hP hD hS dK5_member_28
  exact lp4 5000 v1 0 _ _ _ hm hP hD hS (lv_sub hl [0, 1, 2, 3] rfl)
def mK5_set (m_found : Int32) (m_sets : Nat → Int32) (v1 : Int32) (v2 : Int32) : Option (Int32) :=
  bd1 (mK5_isFound m_found v1) fun x1 => if x1 = 0 then
  (some ((-2)))
  else
  (bd1 (rd m_sets 31 v1) fun x3 => bd1 (mK5_member x3 v2) fun x4 => some x4)
abbrev rmK5_set : Room := { frames := 2, cells := 0, slots := 0, locals := 43 }
set_option maxHeartbeats 4000000 in
set_option maxRecDepth 100000 in
theorem kK5_set (l : Launch) (D : va_G) (cI cZ cB cC : ClassId) (sz : Nat) (m_a : Nat) (m_there_a : Nat) (m_now_a : Nat) (m_kinds_a : Nat) (m_targets_a : Nat) (m_predicates_a : Nat) (m_numbers_a : Nat) (m_puts_a : Nat) (m_codes_a : Nat) (m_weights_a : Nat) (m_sets_a : Nat) (m_picks_a : Nat) (m_classes_a : Nat) (m_steps_a : Nat) (m_told_a : Nat) (m_rules : Int32) (m_changes : Int32) (m_mostTries : Int32) (m_tried : Int32) (m_settled : Int32) (m_found : Int32) (m_isCovered : Int32) (m_covered : Int32) (m_toldMany : Int32) (m_there : Nat → Int32) (m_now : Nat → Int32) (m_kinds : Nat → Int32) (m_targets : Nat → Int32) (m_predicates : Nat → Int32) (m_numbers : Nat → Int32) (m_puts : Nat → Int32) (m_codes : Nat → Int32) (m_weights : Nat → Int32) (m_sets : Nat → Int32) (m_picks : Nat → Int32) (m_classes : Nat → Int32) (m_steps : Nat → Int32) (m_told : Nat → Int32) (v1 : Int32) (v2 : Int32) (r0 : Int32) (hm : mK5_set m_found m_sets v1 v2 = some r0) : Met l yK5_set wsK5_set rmK5_set (va_Pc [.ref m_a, .int v1, .int v2] (Pr D (tyL cI cZ cB cC) sz (wX m_a m_there_a m_now_a m_kinds_a m_targets_a m_predicates_a m_numbers_a m_puts_a m_codes_a m_weights_a m_sets_a m_picks_a m_classes_a m_steps_a m_told_a cI cZ cB cC m_rules m_changes m_mostTries m_tried m_settled m_found m_isCovered m_covered m_toldMany m_there m_now m_kinds m_targets m_predicates m_numbers m_puts m_codes m_weights m_sets m_picks m_classes m_steps m_told))) (QI D (va_A (wX m_a m_there_a m_now_a m_kinds_a m_targets_a m_predicates_a m_numbers_a m_puts_a m_codes_a m_weights_a m_sets_a m_picks_a m_classes_a m_steps_a m_told_a cI cZ cB cC m_rules m_changes m_mostTries m_tried m_settled m_found m_isCovered m_covered m_toldMany m_there m_now m_kinds m_targets m_predicates m_numbers m_puts m_codes m_weights m_sets m_picks m_classes m_steps m_told) sz) r0 (wX m_a m_there_a m_now_a m_kinds_a m_targets_a m_predicates_a m_numbers_a m_puts_a m_codes_a m_weights_a m_sets_a m_picks_a m_classes_a m_steps_a m_told_a cI cZ cB cC m_rules m_changes m_mostTries m_tried m_settled m_found m_isCovered m_covered m_toldMany m_there m_now m_kinds m_targets m_predicates m_numbers m_puts m_codes m_weights m_sets m_picks m_classes m_steps m_told)) 0 0 (va_A (wX m_a m_there_a m_now_a m_kinds_a m_targets_a m_predicates_a m_numbers_a m_puts_a m_codes_a m_weights_a m_sets_a m_picks_a m_classes_a m_steps_a m_told_a cI cZ cB cC m_rules m_changes m_mostTries m_tried m_settled m_found m_isCovered m_covered m_toldMany m_there m_now m_kinds m_targets m_predicates m_numbers m_puts m_codes m_weights m_sets m_picks m_classes m_steps m_told) sz) := by
  refine Met.ofW (cc := cK5_set) (maxL := 3) (ret := (some .int)) (by decide) rfl ?_
  intro p e s m args below meth c s₁ B hml hv
  obtain ⟨rfl, hsz, hP, hK, hD0, hN⟩ := hv
  have hx := B.exec
  have hb := B.bytes
  have hr := B.returns
  have hts := htsA (atoms_spec (ws := wsK5_set) B.pre)
  have hown : s.vm.findClass RK5 = some m.cls := findClass_of_methodNamed B.named
  have hlocks := B.notSynchronized
  subst hsz
  have hD := hD0.self (sz := s.heap.size)
  generalize hAe : va_A (wX m_a m_there_a m_now_a m_kinds_a m_targets_a m_predicates_a m_numbers_a m_puts_a m_codes_a m_weights_a m_sets_a m_picks_a m_classes_a m_steps_a m_told_a cI cZ cB cC m_rules m_changes m_mostTries m_tried m_settled m_found m_isCovered m_covered m_toldMany m_there m_now m_kinds m_targets m_predicates m_numbers m_puts m_codes m_weights m_sets m_picks m_classes m_steps m_told) s.heap.size = A at hD ⊢
  have hA : ∀ q : Nat, s.heap.size ≤ q → A q := fun q h => by rw [← hAe]; exact Or.inr h
  refine kstart (A := A) hP (fun H hP hS => ?_)
  have hl := lv_entry ([.ref m_a, .int v1, .int v2]) (n := 3) (Nat.le_of_ble_eq_true rfl)
  rw [lg_entry_eq]
  generalize (lg_sl ([.ref m_a, .int v1, .int v2]) ++ List.replicate (3 - (lg_sl ([.ref m_a, .int v1, .int v2])).length) Slot.unset).toArray = ls at hl ⊢
  have hl : lv_has ls 3 [(0, .ref m_a), (1, .int v1), (2, .int v2)] := hl
  unfold mK5_set at hm
  refine lv_aload_n hx hb dK5_set_0 rfl (lv_at hl 0 rfl) ?_
  refine lv_iload_n hx hb dK5_set_1 rfl (lv_at hl 1 rfl) ?_
  obtain ⟨x1, ec2, hm⟩ := bd1_s hm
  have hPc := hP.sub (ws' := (wX m_a m_there_a m_now_a m_kinds_a m_targets_a m_predicates_a m_numbers_a m_puts_a m_codes_a m_weights_a m_sets_a m_picks_a m_classes_a m_steps_a m_told_a cI cZ cB cC m_rules m_changes m_mostTries m_tried m_settled m_found m_isCovered m_covered m_toldMany m_there m_now m_kinds m_targets m_predicates m_numbers m_puts m_codes m_weights m_sets m_picks m_classes m_steps m_told)) [0, 1, 2, 3, 4, 5, 6, 7, 8, 9, 10, 11, 12, 13, 14] rfl
  have hDc := hD.sub (ws' := (wX m_a m_there_a m_now_a m_kinds_a m_targets_a m_predicates_a m_numbers_a m_puts_a m_codes_a m_weights_a m_sets_a m_picks_a m_classes_a m_steps_a m_told_a cI cZ cB cC m_rules m_changes m_mostTries m_tried m_settled m_found m_isCovered m_covered m_toldMany m_there m_now m_kinds m_targets m_predicates m_numbers m_puts m_codes m_weights m_sets m_picks m_classes m_steps m_told)) [0, 1, 2, 3, 4, 5, 6, 7, 8, 9, 10, 11, 12, 13, 14] (by decide) rfl
  refine k_calli (wr := []) (w1 := (wX m_a m_there_a m_now_a m_kinds_a m_targets_a m_predicates_a m_numbers_a m_puts_a m_codes_a m_weights_a m_sets_a m_picks_a m_classes_a m_steps_a m_told_a cI cZ cB cC m_rules m_changes m_mostTries m_tried m_settled m_found m_isCovered m_covered m_toldMany m_there m_now m_kinds m_targets m_predicates m_numbers m_puts m_codes m_weights m_sets m_picks m_classes m_steps m_told)) (ws' := (wX m_a m_there_a m_now_a m_kinds_a m_targets_a m_predicates_a m_numbers_a m_puts_a m_codes_a m_weights_a m_sets_a m_picks_a m_classes_a m_steps_a m_told_a cI cZ cB cC m_rules m_changes m_mostTries m_tried m_settled m_found m_isCovered m_covered m_toldMany m_there m_now m_kinds m_targets m_predicates m_numbers m_puts m_codes m_weights m_sets m_picks m_classes m_steps m_told)) (va_runV (As := [.int v1]) (rest := []) ⟨hx, hb, hml, hown, hts⟩ (kK5_isFound l D cI cZ cB cC H.size m_a m_there_a m_now_a m_kinds_a m_targets_a m_predicates_a m_numbers_a m_puts_a m_codes_a m_weights_a m_sets_a m_picks_a m_classes_a m_steps_a m_told_a m_rules m_changes m_mostTries m_tried m_settled m_found m_isCovered m_covered m_toldMany m_there m_now m_kinds m_targets m_predicates m_numbers m_puts m_codes m_weights m_sets m_picks m_classes m_steps m_told v1 x1 ec2) (cwV 1 hts (gdV wdt4_164 wdt4_166 wds2_14 wdt1_10 gkK5_isFound) rfl rfl rfl (by decide +kernel) ⟨Nat.le_of_ble_eq_true rfl, Nat.le_of_ble_eq_true rfl⟩) ⟨Pr_blind, va_recv hK hPc (ci := 5) (q0 := 0) rfl rfl, fun U hU hW => ⟨rfl, Pr_at hK hN hPc hDc hU hW⟩⟩ rfl rfl hl.1 rfl (lv_room (Nat.le_of_ble_eq_true rfl)) dK5_set_2 ⟨Nat.le_of_ble_eq_true rfl, Nat.le_of_ble_eq_true rfl⟩) hP hD hS hA [0, 1, 2, 3, 4, 5, 6, 7, 8, 9, 10, 11, 12, 13, 14] [] [0, 1, 2, 3, 4, 5, 6, 7, 8, 9, 10, 11, 12, 13, 14] rfl rfl (by decide) (by decide) (by decide) rfl (fun H locs hP hD hS => ?_)
  refine lv_if_eq (tgt := 21) hx hb dK5_set_5 (by decide) (fun hc => ?_) (fun hc => ?_)
  · replace hm := ift hm hc
    refine lv_bipush (v := (-2)) hx hb dK5_set_21 (by decide) ?_
    replace hm := Option.some.inj hm
    subst hm
    exact k_reti hx hb hr hlocks hP hD hS dK5_set_23
  · replace hm := iff_ hm hc
    refine lv_aload_n hx hb dK5_set_8 rfl (lv_at hl 0 rfl) ?_
    refine va_get (D := D) (ci := 5) (v := .ref m_sets_a) (C := RK5) (T := TK5) (N := 23) hx hb hts inK5 hown hK hP 0 rfl rfl 15 (by decide) (hts _ wdt3_201) (fun _ h9 => h9) rfl dK5_set_9 ?_
    refine lv_iload_n hx hb dK5_set_12 rfl (lv_at hl 1 rfl) ?_
    obtain ⟨x3, ex3, hm⟩ := bd1_s hm
    obtain ⟨hix3, ex3⟩ := rd_s ex3
    refine va_iald hx hb hK hP 10 0 rfl rfl hix3 dK5_set_13 ?_
    refine topi ex3 ?_
    refine lv_iload_n hx hb dK5_set_14 rfl (lv_at hl 2 rfl) ?_
    obtain ⟨x4, ec5, hm⟩ := bd1_s hm
    have hPc : va_P D vwCl [] H := va_P0
    have hDc : va_D A [] := va_D0
    refine k_calli0 (va_runS (As := [.int x3, .int v2]) (rest := []) ⟨hx, hb, hml, hown, hts⟩ (kK5_member l D cI cZ cB cC H.size x3 v2 x4 ec5) (va_cwS 2 hts (gdS wdt4_168 wdt4_169 wdt1_10 gkK5_member) rfl rfl rfl (by decide +kernel) ⟨Nat.le_of_ble_eq_true rfl, Nat.le_of_ble_eq_true rfl⟩) ⟨Pr_blind, fun U hU hW => ⟨rfl, Pr_at hK hN hPc hDc hU hW⟩⟩ rfl rfl hl.1 rfl (lv_room (Nat.le_of_ble_eq_true rfl)) dK5_set_15 ⟨Nat.le_of_ble_eq_true rfl, Nat.le_of_ble_eq_true rfl⟩) hP hD hS hA (fun H locs hP hD hS => ?_)
    refine lv_goto (tgt := 23) hx hb dK5_set_18 (by decide) ?_
    replace hm := Option.some.inj hm
    subst hm
    exact k_reti hx hb hr hlocks hP hD hS dK5_set_23
def mK5_weight (m_found : Int32) (m_weights : Nat → Int32) (m_sets : Nat → Int32) (v1 : Int32) : Option (Int32) :=
  bd1 (mK5_isFound m_found v1) fun x1 => if x1 = 0 then
  (some ((-2)))
  else
  (bd1 (rd m_sets 31 v1) fun x3 => bd1 (mK5_weightOf m_weights x3) fun x4 => some x4)
abbrev rmK5_weight : Room := { frames := 2, cells := 0, slots := 0, locals := 43 }
set_option maxHeartbeats 4000000 in
set_option maxRecDepth 100000 in
theorem kK5_weight (l : Launch) (D : va_G) (cI cZ cB cC : ClassId) (sz : Nat) (m_a : Nat) (m_there_a : Nat) (m_now_a : Nat) (m_kinds_a : Nat) (m_targets_a : Nat) (m_predicates_a : Nat) (m_numbers_a : Nat) (m_puts_a : Nat) (m_codes_a : Nat) (m_weights_a : Nat) (m_sets_a : Nat) (m_picks_a : Nat) (m_classes_a : Nat) (m_steps_a : Nat) (m_told_a : Nat) (m_rules : Int32) (m_changes : Int32) (m_mostTries : Int32) (m_tried : Int32) (m_settled : Int32) (m_found : Int32) (m_isCovered : Int32) (m_covered : Int32) (m_toldMany : Int32) (m_there : Nat → Int32) (m_now : Nat → Int32) (m_kinds : Nat → Int32) (m_targets : Nat → Int32) (m_predicates : Nat → Int32) (m_numbers : Nat → Int32) (m_puts : Nat → Int32) (m_codes : Nat → Int32) (m_weights : Nat → Int32) (m_sets : Nat → Int32) (m_picks : Nat → Int32) (m_classes : Nat → Int32) (m_steps : Nat → Int32) (m_told : Nat → Int32) (v1 : Int32) (r0 : Int32) (hm : mK5_weight m_found m_weights m_sets v1 = some r0) : Met l yK5_weight wsK5_weight rmK5_weight (va_Pc [.ref m_a, .int v1] (Pr D (tyL cI cZ cB cC) sz (wX m_a m_there_a m_now_a m_kinds_a m_targets_a m_predicates_a m_numbers_a m_puts_a m_codes_a m_weights_a m_sets_a m_picks_a m_classes_a m_steps_a m_told_a cI cZ cB cC m_rules m_changes m_mostTries m_tried m_settled m_found m_isCovered m_covered m_toldMany m_there m_now m_kinds m_targets m_predicates m_numbers m_puts m_codes m_weights m_sets m_picks m_classes m_steps m_told))) (QI D (va_A (wX m_a m_there_a m_now_a m_kinds_a m_targets_a m_predicates_a m_numbers_a m_puts_a m_codes_a m_weights_a m_sets_a m_picks_a m_classes_a m_steps_a m_told_a cI cZ cB cC m_rules m_changes m_mostTries m_tried m_settled m_found m_isCovered m_covered m_toldMany m_there m_now m_kinds m_targets m_predicates m_numbers m_puts m_codes m_weights m_sets m_picks m_classes m_steps m_told) sz) r0 (wX m_a m_there_a m_now_a m_kinds_a m_targets_a m_predicates_a m_numbers_a m_puts_a m_codes_a m_weights_a m_sets_a m_picks_a m_classes_a m_steps_a m_told_a cI cZ cB cC m_rules m_changes m_mostTries m_tried m_settled m_found m_isCovered m_covered m_toldMany m_there m_now m_kinds m_targets m_predicates m_numbers m_puts m_codes m_weights m_sets m_picks m_classes m_steps m_told)) 0 0 (va_A (wX m_a m_there_a m_now_a m_kinds_a m_targets_a m_predicates_a m_numbers_a m_puts_a m_codes_a m_weights_a m_sets_a m_picks_a m_classes_a m_steps_a m_told_a cI cZ cB cC m_rules m_changes m_mostTries m_tried m_settled m_found m_isCovered m_covered m_toldMany m_there m_now m_kinds m_targets m_predicates m_numbers m_puts m_codes m_weights m_sets m_picks m_classes m_steps m_told) sz) := by
  refine Met.ofW (cc := cK5_weight) (maxL := 2) (ret := (some .int)) (by decide) rfl ?_
  intro p e s m args below meth c s₁ B hml hv
  obtain ⟨rfl, hsz, hP, hK, hD0, hN⟩ := hv
  have hx := B.exec
  have hb := B.bytes
  have hr := B.returns
  have hts := htsA (atoms_spec (ws := wsK5_weight) B.pre)
  have hown : s.vm.findClass RK5 = some m.cls := findClass_of_methodNamed B.named
  have hlocks := B.notSynchronized
  subst hsz
  have hD := hD0.self (sz := s.heap.size)
  generalize hAe : va_A (wX m_a m_there_a m_now_a m_kinds_a m_targets_a m_predicates_a m_numbers_a m_puts_a m_codes_a m_weights_a m_sets_a m_picks_a m_classes_a m_steps_a m_told_a cI cZ cB cC m_rules m_changes m_mostTries m_tried m_settled m_found m_isCovered m_covered m_toldMany m_there m_now m_kinds m_targets m_predicates m_numbers m_puts m_codes m_weights m_sets m_picks m_classes m_steps m_told) s.heap.size = A at hD ⊢
  have hA : ∀ q : Nat, s.heap.size ≤ q → A q := fun q h => by rw [← hAe]; exact Or.inr h
  refine kstart (A := A) hP (fun H hP hS => ?_)
  have hl := lv_entry ([.ref m_a, .int v1]) (n := 2) (Nat.le_of_ble_eq_true rfl)
  rw [lg_entry_eq]
  generalize (lg_sl ([.ref m_a, .int v1]) ++ List.replicate (2 - (lg_sl ([.ref m_a, .int v1])).length) Slot.unset).toArray = ls at hl ⊢
  have hl : lv_has ls 2 [(0, .ref m_a), (1, .int v1)] := hl
  unfold mK5_weight at hm
  refine lv_aload_n hx hb dK5_weight_0 rfl (lv_at hl 0 rfl) ?_
  refine lv_iload_n hx hb dK5_weight_1 rfl (lv_at hl 1 rfl) ?_
  obtain ⟨x1, ec2, hm⟩ := bd1_s hm
  have hPc := hP.sub (ws' := (wX m_a m_there_a m_now_a m_kinds_a m_targets_a m_predicates_a m_numbers_a m_puts_a m_codes_a m_weights_a m_sets_a m_picks_a m_classes_a m_steps_a m_told_a cI cZ cB cC m_rules m_changes m_mostTries m_tried m_settled m_found m_isCovered m_covered m_toldMany m_there m_now m_kinds m_targets m_predicates m_numbers m_puts m_codes m_weights m_sets m_picks m_classes m_steps m_told)) [0, 1, 2, 3, 4, 5, 6, 7, 8, 9, 10, 11, 12, 13, 14] rfl
  have hDc := hD.sub (ws' := (wX m_a m_there_a m_now_a m_kinds_a m_targets_a m_predicates_a m_numbers_a m_puts_a m_codes_a m_weights_a m_sets_a m_picks_a m_classes_a m_steps_a m_told_a cI cZ cB cC m_rules m_changes m_mostTries m_tried m_settled m_found m_isCovered m_covered m_toldMany m_there m_now m_kinds m_targets m_predicates m_numbers m_puts m_codes m_weights m_sets m_picks m_classes m_steps m_told)) [0, 1, 2, 3, 4, 5, 6, 7, 8, 9, 10, 11, 12, 13, 14] (by decide) rfl
  refine k_calli (wr := []) (w1 := (wX m_a m_there_a m_now_a m_kinds_a m_targets_a m_predicates_a m_numbers_a m_puts_a m_codes_a m_weights_a m_sets_a m_picks_a m_classes_a m_steps_a m_told_a cI cZ cB cC m_rules m_changes m_mostTries m_tried m_settled m_found m_isCovered m_covered m_toldMany m_there m_now m_kinds m_targets m_predicates m_numbers m_puts m_codes m_weights m_sets m_picks m_classes m_steps m_told)) (ws' := (wX m_a m_there_a m_now_a m_kinds_a m_targets_a m_predicates_a m_numbers_a m_puts_a m_codes_a m_weights_a m_sets_a m_picks_a m_classes_a m_steps_a m_told_a cI cZ cB cC m_rules m_changes m_mostTries m_tried m_settled m_found m_isCovered m_covered m_toldMany m_there m_now m_kinds m_targets m_predicates m_numbers m_puts m_codes m_weights m_sets m_picks m_classes m_steps m_told)) (va_runV (As := [.int v1]) (rest := []) ⟨hx, hb, hml, hown, hts⟩ (kK5_isFound l D cI cZ cB cC H.size m_a m_there_a m_now_a m_kinds_a m_targets_a m_predicates_a m_numbers_a m_puts_a m_codes_a m_weights_a m_sets_a m_picks_a m_classes_a m_steps_a m_told_a m_rules m_changes m_mostTries m_tried m_settled m_found m_isCovered m_covered m_toldMany m_there m_now m_kinds m_targets m_predicates m_numbers m_puts m_codes m_weights m_sets m_picks m_classes m_steps m_told v1 x1 ec2) (cwV 1 hts (gdV wdt4_164 wdt4_166 wds2_14 wdt1_10 gkK5_isFound) rfl rfl rfl (by decide +kernel) ⟨Nat.le_of_ble_eq_true rfl, Nat.le_of_ble_eq_true rfl⟩) ⟨Pr_blind, va_recv hK hPc (ci := 5) (q0 := 0) rfl rfl, fun U hU hW => ⟨rfl, Pr_at hK hN hPc hDc hU hW⟩⟩ rfl rfl hl.1 rfl (lv_room (Nat.le_of_ble_eq_true rfl)) dK5_weight_2 ⟨Nat.le_of_ble_eq_true rfl, Nat.le_of_ble_eq_true rfl⟩) hP hD hS hA [0, 1, 2, 3, 4, 5, 6, 7, 8, 9, 10, 11, 12, 13, 14] [] [0, 1, 2, 3, 4, 5, 6, 7, 8, 9, 10, 11, 12, 13, 14] rfl rfl (by decide) (by decide) (by decide) rfl (fun H locs hP hD hS => ?_)
  refine lv_if_eq (tgt := 21) hx hb dK5_weight_5 (by decide) (fun hc => ?_) (fun hc => ?_)
  · replace hm := ift hm hc
    refine lv_bipush (v := (-2)) hx hb dK5_weight_21 (by decide) ?_
    replace hm := Option.some.inj hm
    subst hm
    exact k_reti hx hb hr hlocks hP hD hS dK5_weight_23
  · replace hm := iff_ hm hc
    refine lv_aload_n hx hb dK5_weight_8 rfl (lv_at hl 0 rfl) ?_
    refine lv_aload_n hx hb dK5_weight_9 rfl (lv_at hl 0 rfl) ?_
    refine va_get (D := D) (ci := 5) (v := .ref m_sets_a) (C := RK5) (T := TK5) (N := 23) hx hb hts inK5 hown hK hP 0 rfl rfl 15 (by decide) (hts _ wdt3_201) (fun _ h9 => h9) rfl dK5_weight_10 ?_
    refine lv_iload_n hx hb dK5_weight_13 rfl (lv_at hl 1 rfl) ?_
    obtain ⟨x3, ex3, hm⟩ := bd1_s hm
    obtain ⟨hix3, ex3⟩ := rd_s ex3
    refine va_iald hx hb hK hP 10 0 rfl rfl hix3 dK5_weight_14 ?_
    refine topi ex3 ?_
    obtain ⟨x4, ec5, hm⟩ := bd1_s hm
    have hPc := hP.sub (ws' := (wX m_a m_there_a m_now_a m_kinds_a m_targets_a m_predicates_a m_numbers_a m_puts_a m_codes_a m_weights_a m_sets_a m_picks_a m_classes_a m_steps_a m_told_a cI cZ cB cC m_rules m_changes m_mostTries m_tried m_settled m_found m_isCovered m_covered m_toldMany m_there m_now m_kinds m_targets m_predicates m_numbers m_puts m_codes m_weights m_sets m_picks m_classes m_steps m_told)) [0, 1, 2, 3, 4, 5, 6, 7, 8, 9, 10, 11, 12, 13, 14] rfl
    have hDc := hD.sub (ws' := (wX m_a m_there_a m_now_a m_kinds_a m_targets_a m_predicates_a m_numbers_a m_puts_a m_codes_a m_weights_a m_sets_a m_picks_a m_classes_a m_steps_a m_told_a cI cZ cB cC m_rules m_changes m_mostTries m_tried m_settled m_found m_isCovered m_covered m_toldMany m_there m_now m_kinds m_targets m_predicates m_numbers m_puts m_codes m_weights m_sets m_picks m_classes m_steps m_told)) [0, 1, 2, 3, 4, 5, 6, 7, 8, 9, 10, 11, 12, 13, 14] (by decide) rfl
    refine k_calli (wr := []) (w1 := (wX m_a m_there_a m_now_a m_kinds_a m_targets_a m_predicates_a m_numbers_a m_puts_a m_codes_a m_weights_a m_sets_a m_picks_a m_classes_a m_steps_a m_told_a cI cZ cB cC m_rules m_changes m_mostTries m_tried m_settled m_found m_isCovered m_covered m_toldMany m_there m_now m_kinds m_targets m_predicates m_numbers m_puts m_codes m_weights m_sets m_picks m_classes m_steps m_told)) (ws' := (wX m_a m_there_a m_now_a m_kinds_a m_targets_a m_predicates_a m_numbers_a m_puts_a m_codes_a m_weights_a m_sets_a m_picks_a m_classes_a m_steps_a m_told_a cI cZ cB cC m_rules m_changes m_mostTries m_tried m_settled m_found m_isCovered m_covered m_toldMany m_there m_now m_kinds m_targets m_predicates m_numbers m_puts m_codes m_weights m_sets m_picks m_classes m_steps m_told)) (va_runV (As := [.int x3]) (rest := []) ⟨hx, hb, hml, hown, hts⟩ (kK5_weightOf l D cI cZ cB cC H.size m_a m_there_a m_now_a m_kinds_a m_targets_a m_predicates_a m_numbers_a m_puts_a m_codes_a m_weights_a m_sets_a m_picks_a m_classes_a m_steps_a m_told_a m_rules m_changes m_mostTries m_tried m_settled m_found m_isCovered m_covered m_toldMany m_there m_now m_kinds m_targets m_predicates m_numbers m_puts m_codes m_weights m_sets m_picks m_classes m_steps m_told x3 x4 ec5) (cwV 1 hts (gdV wdt4_137 wdt4_139 wds2_12 wdt1_10 gkK5_weightOf) rfl rfl rfl (by decide +kernel) ⟨Nat.le_of_ble_eq_true rfl, Nat.le_of_ble_eq_true rfl⟩) ⟨Pr_blind, va_recv hK hPc (ci := 5) (q0 := 0) rfl rfl, fun U hU hW => ⟨rfl, Pr_at hK hN hPc hDc hU hW⟩⟩ rfl rfl hl.1 rfl (lv_room (Nat.le_of_ble_eq_true rfl)) dK5_weight_15 ⟨Nat.le_of_ble_eq_true rfl, Nat.le_of_ble_eq_true rfl⟩) hP hD hS hA [0, 1, 2, 3, 4, 5, 6, 7, 8, 9, 10, 11, 12, 13, 14] [] [0, 1, 2, 3, 4, 5, 6, 7, 8, 9, 10, 11, 12, 13, 14] rfl rfl (by decide) (by decide) (by decide) rfl (fun H locs hP hD hS => ?_)
    refine lv_goto (tgt := 23) hx hb dK5_weight_18 (by decide) ?_
    replace hm := Option.some.inj hm
    subst hm
    exact k_reti hx hb hr hlocks hP hD hS dK5_weight_23
def mK5_breaks_A16 (m_nowx16 : Nat → Int32) (m_classesx16 : Nat → Int32) : Option (Int32 × (Nat → Int32) × (Nat → Int32)) :=
  some ((-2), m_nowx16, m_classesx16)
def mK5_breaks_J90 (i3l16 : Int32) (i4l16 : Int32) (rc16 : Int32 → Int32 → (Nat → Int32) → (Nat → Int32) → (Option (Int32 × (Nat → Int32) × (Nat → Int32)))) (x9 : Nat → Int32) (s0j90 : Int32) (m_classesj90 : Nat → Int32) : Option (Int32 × (Nat → Int32) × (Nat → Int32)) :=
  if s0j90 = 0 then
  (if s0j90 = 0 then
    (bd1 (some (i3l16 - 0)) fun x11 => bd1 (some (i4l16 + 1)) fun x12 => rc16 x11 x12 x9 m_classesj90)
    else
    (bd1 (some (i3l16 - 1)) fun x13 => bd1 (some (i4l16 + 1)) fun x14 => rc16 x13 x14 x9 m_classesj90))
  else
  (if i3l16 = 0 then
    (some (i4l16, x9, m_classesj90))
    else
    (if s0j90 = 0 then
      (bd1 (some (i3l16 - 0)) fun x15 => bd1 (some (i4l16 + 1)) fun x16 => rc16 x15 x16 x9 m_classesj90)
      else
      (bd1 (some (i3l16 - 1)) fun x17 => bd1 (some (i4l16 + 1)) fun x18 => rc16 x17 x18 x9 m_classesj90)))
def mK5_breaks_J89 (i3l16 : Int32) (i4l16 : Int32) (rc16 : Int32 → Int32 → (Nat → Int32) → (Nat → Int32) → (Option (Int32 × (Nat → Int32) × (Nat → Int32)))) (x9 : Nat → Int32) (m_classesj89 : Nat → Int32) : Option (Int32 × (Nat → Int32) × (Nat → Int32)) :=
  mK5_breaks_J90 i3l16 i4l16 rc16 x9 0 m_classesj89
def mK5_breaks_B16 (m_rules : Int32) (m_changes : Int32) (m_there : Nat → Int32) (m_kinds : Nat → Int32) (m_targets : Nat → Int32) (m_predicates : Nat → Int32) (m_numbers : Nat → Int32) (m_puts : Nat → Int32) (m_codes : Nat → Int32) (m_sets : Nat → Int32) (v1 : Int32) (v2 : Int32) (kx16 : (Nat → Int32) → (Nat → Int32) → (Option (Int32 × (Nat → Int32) × (Nat → Int32)))) (rc16 : Int32 → Int32 → (Nat → Int32) → (Nat → Int32) → (Option (Int32 × (Nat → Int32) × (Nat → Int32)))) (i3l16 : Int32) (i4l16 : Int32) (m_nowl16 : Nat → Int32) (m_classesl16 : Nat → Int32) : Option (Int32 × (Nat → Int32) × (Nat → Int32)) :=
  if (12 * m_rules) ≤ i4l16 then
  (kx16 m_nowl16 m_classesl16)
  else
  (if v2 < 0 then
    (kx16 m_nowl16 m_classesl16)
    else
    (bd1 (mK5_begin m_changes m_there m_nowl16 m_puts m_codes 0) fun x3 => bd2 (mK5_isResult x3 m_kinds m_targets m_predicates m_numbers m_classesl16 (i4l16 / 12) (i4l16 - i4l16 / 12 * 12)) fun x5 x6 => bd1 (rd m_sets 31 v1) fun x8 => bd1 (mK5_begin m_changes m_there x3 m_puts m_codes x8) fun x9 => if x5 = 0 then
      (bd2 (mK5_isResult x9 m_kinds m_targets m_predicates m_numbers x6 (i4l16 / 12) (i4l16 - i4l16 / 12 * 12)) fun x19 x20 => if x19 = 0 then
        (mK5_breaks_J89 i3l16 i4l16 rc16 x9 x20)
        else
        (mK5_breaks_J90 i3l16 i4l16 rc16 x9 1 x20))
      else
      (mK5_breaks_J89 i3l16 i4l16 rc16 x9 x6)))
def mK5_breaks_L16 (m_rules : Int32) (m_changes : Int32) (m_there : Nat → Int32) (m_kinds : Nat → Int32) (m_targets : Nat → Int32) (m_predicates : Nat → Int32) (m_numbers : Nat → Int32) (m_puts : Nat → Int32) (m_codes : Nat → Int32) (m_sets : Nat → Int32) (v1 : Int32) (v2 : Int32) (kx16 : (Nat → Int32) → (Nat → Int32) → (Option (Int32 × (Nat → Int32) × (Nat → Int32)))) : Nat → Int32 → Int32 → (Nat → Int32) → (Nat → Int32) → (Option (Int32 × (Nat → Int32) × (Nat → Int32)))
  | 0, _, _, _, _ => none
  | n + 1, i3l16, i4l16, m_nowl16, m_classesl16 => mK5_breaks_B16 m_rules m_changes m_there m_kinds m_targets m_predicates m_numbers m_puts m_codes m_sets v1 v2 kx16 (mK5_breaks_L16 m_rules m_changes m_there m_kinds m_targets m_predicates m_numbers m_puts m_codes m_sets v1 v2 kx16 n) i3l16 i4l16 m_nowl16 m_classesl16
def mK5_breaks (m_rules : Int32) (m_changes : Int32) (m_found : Int32) (m_there : Nat → Int32) (m_now : Nat → Int32) (m_kinds : Nat → Int32) (m_targets : Nat → Int32) (m_predicates : Nat → Int32) (m_numbers : Nat → Int32) (m_puts : Nat → Int32) (m_codes : Nat → Int32) (m_sets : Nat → Int32) (m_classes : Nat → Int32) (v1 : Int32) (v2 : Int32) : Option (Int32 × (Nat → Int32) × (Nat → Int32)) :=
  bd1 (mK5_isFound m_found v1) fun x1 => if x1 = 0 then
  (some ((-2), m_now, m_classes))
  else
  (mK5_breaks_L16 m_rules m_changes m_there m_kinds m_targets m_predicates m_numbers m_puts m_codes m_sets v1 v2 (mK5_breaks_A16) 5000 v2 0 m_now m_classes)
abbrev rmK5_breaks : Room := { frames := 4, cells := 0, slots := 0, locals := 97 }
set_option maxHeartbeats 4000000 in
set_option maxRecDepth 100000 in
theorem kK5_breaks (l : Launch) (D : va_G) (cI cZ cB cC : ClassId) (sz : Nat) (m_a : Nat) (m_there_a : Nat) (m_now_a : Nat) (m_kinds_a : Nat) (m_targets_a : Nat) (m_predicates_a : Nat) (m_numbers_a : Nat) (m_puts_a : Nat) (m_codes_a : Nat) (m_weights_a : Nat) (m_sets_a : Nat) (m_picks_a : Nat) (m_classes_a : Nat) (m_steps_a : Nat) (m_told_a : Nat) (m_rules : Int32) (m_changes : Int32) (m_mostTries : Int32) (m_tried : Int32) (m_settled : Int32) (m_found : Int32) (m_isCovered : Int32) (m_covered : Int32) (m_toldMany : Int32) (m_there : Nat → Int32) (m_now : Nat → Int32) (m_kinds : Nat → Int32) (m_targets : Nat → Int32) (m_predicates : Nat → Int32) (m_numbers : Nat → Int32) (m_puts : Nat → Int32) (m_codes : Nat → Int32) (m_weights : Nat → Int32) (m_sets : Nat → Int32) (m_picks : Nat → Int32) (m_classes : Nat → Int32) (m_steps : Nat → Int32) (m_told : Nat → Int32) (v1 : Int32) (v2 : Int32) (r0 : Int32) (m_now_r : Nat → Int32) (m_classes_r : Nat → Int32) (hm : mK5_breaks m_rules m_changes m_found m_there m_now m_kinds m_targets m_predicates m_numbers m_puts m_codes m_sets m_classes v1 v2 = some (r0, m_now_r, m_classes_r)) : Met l yK5_breaks wsK5_breaks rmK5_breaks (va_Pc [.ref m_a, .int v1, .int v2] (Pr D (tyL cI cZ cB cC) sz (wX m_a m_there_a m_now_a m_kinds_a m_targets_a m_predicates_a m_numbers_a m_puts_a m_codes_a m_weights_a m_sets_a m_picks_a m_classes_a m_steps_a m_told_a cI cZ cB cC m_rules m_changes m_mostTries m_tried m_settled m_found m_isCovered m_covered m_toldMany m_there m_now m_kinds m_targets m_predicates m_numbers m_puts m_codes m_weights m_sets m_picks m_classes m_steps m_told))) (QI D (va_A (wX m_a m_there_a m_now_a m_kinds_a m_targets_a m_predicates_a m_numbers_a m_puts_a m_codes_a m_weights_a m_sets_a m_picks_a m_classes_a m_steps_a m_told_a cI cZ cB cC m_rules m_changes m_mostTries m_tried m_settled m_found m_isCovered m_covered m_toldMany m_there m_now m_kinds m_targets m_predicates m_numbers m_puts m_codes m_weights m_sets m_picks m_classes m_steps m_told) sz) r0 (wX m_a m_there_a m_now_a m_kinds_a m_targets_a m_predicates_a m_numbers_a m_puts_a m_codes_a m_weights_a m_sets_a m_picks_a m_classes_a m_steps_a m_told_a cI cZ cB cC m_rules m_changes m_mostTries m_tried m_settled m_found m_isCovered m_covered m_toldMany m_there m_now_r m_kinds m_targets m_predicates m_numbers m_puts m_codes m_weights m_sets m_picks m_classes_r m_steps m_told)) 0 0 (va_A (wX m_a m_there_a m_now_a m_kinds_a m_targets_a m_predicates_a m_numbers_a m_puts_a m_codes_a m_weights_a m_sets_a m_picks_a m_classes_a m_steps_a m_told_a cI cZ cB cC m_rules m_changes m_mostTries m_tried m_settled m_found m_isCovered m_covered m_toldMany m_there m_now m_kinds m_targets m_predicates m_numbers m_puts m_codes m_weights m_sets m_picks m_classes m_steps m_told) sz) := by
  refine Met.ofW (cc := cK5_breaks) (maxL := 7) (ret := (some .int)) (by decide) rfl ?_
  intro p e s m args below meth c s₁ B hml hv
  obtain ⟨rfl, hsz, hP, hK, hD0, hN⟩ := hv
  have hx := B.exec
  have hb := B.bytes
  have hr := B.returns
  have hts := htsA (atoms_spec (ws := wsK5_breaks) B.pre)
  have hown : s.vm.findClass RK5 = some m.cls := findClass_of_methodNamed B.named
  have hlocks := B.notSynchronized
  subst hsz
  have hD := hD0.self (sz := s.heap.size)
  generalize hAe : va_A (wX m_a m_there_a m_now_a m_kinds_a m_targets_a m_predicates_a m_numbers_a m_puts_a m_codes_a m_weights_a m_sets_a m_picks_a m_classes_a m_steps_a m_told_a cI cZ cB cC m_rules m_changes m_mostTries m_tried m_settled m_found m_isCovered m_covered m_toldMany m_there m_now m_kinds m_targets m_predicates m_numbers m_puts m_codes m_weights m_sets m_picks m_classes m_steps m_told) s.heap.size = A at hD ⊢
  have hA : ∀ q : Nat, s.heap.size ≤ q → A q := fun q h => by rw [← hAe]; exact Or.inr h
  refine kstart (A := A) hP (fun H hP hS => ?_)
  have hl := lv_entry ([.ref m_a, .int v1, .int v2]) (n := 7) (Nat.le_of_ble_eq_true rfl)
  rw [lg_entry_eq]
  generalize (lg_sl ([.ref m_a, .int v1, .int v2]) ++ List.replicate (7 - (lg_sl ([.ref m_a, .int v1, .int v2])).length) Slot.unset).toArray = ls at hl ⊢
  have hl : lv_has ls 7 [(0, .ref m_a), (1, .int v1), (2, .int v2)] := hl
  unfold mK5_breaks at hm
  refine lv_aload_n hx hb dK5_breaks_0 rfl (lv_at hl 0 rfl) ?_
  refine lv_iload_n hx hb dK5_breaks_1 rfl (lv_at hl 1 rfl) ?_
  obtain ⟨x1, ec2, hm⟩ := bd1_s hm
  have hPc := hP.sub (ws' := (wX m_a m_there_a m_now_a m_kinds_a m_targets_a m_predicates_a m_numbers_a m_puts_a m_codes_a m_weights_a m_sets_a m_picks_a m_classes_a m_steps_a m_told_a cI cZ cB cC m_rules m_changes m_mostTries m_tried m_settled m_found m_isCovered m_covered m_toldMany m_there m_now m_kinds m_targets m_predicates m_numbers m_puts m_codes m_weights m_sets m_picks m_classes m_steps m_told)) [0, 1, 2, 3, 4, 5, 6, 7, 8, 9, 10, 11, 12, 13, 14] rfl
  have hDc := hD.sub (ws' := (wX m_a m_there_a m_now_a m_kinds_a m_targets_a m_predicates_a m_numbers_a m_puts_a m_codes_a m_weights_a m_sets_a m_picks_a m_classes_a m_steps_a m_told_a cI cZ cB cC m_rules m_changes m_mostTries m_tried m_settled m_found m_isCovered m_covered m_toldMany m_there m_now m_kinds m_targets m_predicates m_numbers m_puts m_codes m_weights m_sets m_picks m_classes m_steps m_told)) [0, 1, 2, 3, 4, 5, 6, 7, 8, 9, 10, 11, 12, 13, 14] (by decide) rfl
  refine k_calli (wr := []) (w1 := (wX m_a m_there_a m_now_a m_kinds_a m_targets_a m_predicates_a m_numbers_a m_puts_a m_codes_a m_weights_a m_sets_a m_picks_a m_classes_a m_steps_a m_told_a cI cZ cB cC m_rules m_changes m_mostTries m_tried m_settled m_found m_isCovered m_covered m_toldMany m_there m_now m_kinds m_targets m_predicates m_numbers m_puts m_codes m_weights m_sets m_picks m_classes m_steps m_told)) (ws' := (wX m_a m_there_a m_now_a m_kinds_a m_targets_a m_predicates_a m_numbers_a m_puts_a m_codes_a m_weights_a m_sets_a m_picks_a m_classes_a m_steps_a m_told_a cI cZ cB cC m_rules m_changes m_mostTries m_tried m_settled m_found m_isCovered m_covered m_toldMany m_there m_now m_kinds m_targets m_predicates m_numbers m_puts m_codes m_weights m_sets m_picks m_classes m_steps m_told)) (va_runV (As := [.int v1]) (rest := []) ⟨hx, hb, hml, hown, hts⟩ (kK5_isFound l D cI cZ cB cC H.size m_a m_there_a m_now_a m_kinds_a m_targets_a m_predicates_a m_numbers_a m_puts_a m_codes_a m_weights_a m_sets_a m_picks_a m_classes_a m_steps_a m_told_a m_rules m_changes m_mostTries m_tried m_settled m_found m_isCovered m_covered m_toldMany m_there m_now m_kinds m_targets m_predicates m_numbers m_puts m_codes m_weights m_sets m_picks m_classes m_steps m_told v1 x1 ec2) (cwV 1 hts (gdV wdt4_164 wdt4_166 wds2_14 wdt1_10 gkK5_isFound) rfl rfl rfl (by decide +kernel) ⟨Nat.le_of_ble_eq_true rfl, Nat.le_of_ble_eq_true rfl⟩) ⟨Pr_blind, va_recv hK hPc (ci := 5) (q0 := 0) rfl rfl, fun U hU hW => ⟨rfl, Pr_at hK hN hPc hDc hU hW⟩⟩ rfl rfl hl.1 rfl (lv_room (Nat.le_of_ble_eq_true rfl)) dK5_breaks_2 ⟨Nat.le_of_ble_eq_true rfl, Nat.le_of_ble_eq_true rfl⟩) hP hD hS hA [0, 1, 2, 3, 4, 5, 6, 7, 8, 9, 10, 11, 12, 13, 14] [] [0, 1, 2, 3, 4, 5, 6, 7, 8, 9, 10, 11, 12, 13, 14] rfl rfl (by decide) (by decide) (by decide) rfl (fun H locs hP hD hS => ?_)
  refine lv_if_ne (tgt := 11) hx hb dK5_breaks_5 (by decide) (fun hc => ?_) (fun hc => ?_)
  · replace hm := iff_ hm hc
    refine lv_iload_n hx hb dK5_breaks_11 rfl (lv_at hl 2 rfl) ?_
    refine lv_istore_n (lv' := [(3, .int v2), (0, .ref m_a), (1, .int v1), (2, .int v2)]) hx hb dK5_breaks_12 rfl hl (by decide) rfl (fun ls hl => ?_)
    refine lv_iconst (v := 0) hx hb dK5_breaks_13 (by decide) ?_
    refine lv_istore (lv' := [(4, .int 0), (3, .int v2), (0, .ref m_a), (1, .int v1), (2, .int v2)]) hx hb dK5_breaks_14 hl (by decide) rfl (fun ls hl => ?_)
    have lx16 : ∀ (m_nowx16 : Nat → Int32) (m_classesx16 : Nat → Int32) (H : Heap) (locs : List Loc) (ls : Array Slot), mK5_breaks_A16 m_nowx16 m_classesx16 = some (r0, m_now_r, m_classes_r) → va_P D vwCl (wX m_a m_there_a m_now_a m_kinds_a m_targets_a m_predicates_a m_numbers_a m_puts_a m_codes_a m_weights_a m_sets_a m_picks_a m_classes_a m_steps_a m_told_a cI cZ cB cC m_rules m_changes m_mostTries m_tried m_settled m_found m_isCovered m_covered m_toldMany m_there m_nowx16 m_kinds m_targets m_predicates m_numbers m_puts m_codes m_weights m_sets m_picks m_classesx16 m_steps m_told) H → va_D A (wX m_a m_there_a m_now_a m_kinds_a m_targets_a m_predicates_a m_numbers_a m_puts_a m_codes_a m_weights_a m_sets_a m_picks_a m_classes_a m_steps_a m_told_a cI cZ cB cC m_rules m_changes m_mostTries m_tried m_settled m_found m_isCovered m_covered m_toldMany m_there m_nowx16 m_kinds m_targets m_predicates m_numbers m_puts m_codes m_weights m_sets m_picks m_classesx16 m_steps m_told) → va_S A s.heap H locs → lv_has ls 7 [] → W p l e (headSpec wsK5_breaks rmK5_breaks).room s m ([.ref m_a, .int v1, .int v2] : List Value).toArray below meth c H locs 0 0 (MQ below (QI D A r0 (wX m_a m_there_a m_now_a m_kinds_a m_targets_a m_predicates_a m_numbers_a m_puts_a m_codes_a m_weights_a m_sets_a m_picks_a m_classes_a m_steps_a m_told_a cI cZ cB cC m_rules m_changes m_mostTries m_tried m_settled m_found m_isCovered m_covered m_toldMany m_there m_now_r m_kinds m_targets m_predicates m_numbers m_puts m_codes m_weights m_sets m_picks m_classes_r m_steps m_told)) ([.ref m_a, .int v1, .int v2] : List Value).toArray s 0 0 A) (F0 m 123 ls []) := by
      intro m_nowx16 m_classesx16 H locs ls hm hP hD hS hl
      unfold mK5_breaks_A16 at hm
      refine lv_bipush (v := (-2)) hx hb dK5_breaks_123 (by decide) ?_
      replace hm := Option.some.inj hm
      simp only [Prod.mk.injEq] at hm
      obtain ⟨rfl, rfl, rfl⟩ := hm
      exact k_reti hx hb hr hlocks hP hD hS dK5_breaks_125
    have lp16 : ∀ (n16 : Nat) (i3l16 : Int32) (i4l16 : Int32) (m_nowl16 : Nat → Int32) (m_classesl16 : Nat → Int32) (H : Heap) (locs : List Loc) (ls : Array Slot), mK5_breaks_L16 m_rules m_changes m_there m_kinds m_targets m_predicates m_numbers m_puts m_codes m_sets v1 v2 (mK5_breaks_A16) n16 i3l16 i4l16 m_nowl16 m_classesl16 = some (r0, m_now_r, m_classes_r) → va_P D vwCl (wX m_a m_there_a m_now_a m_kinds_a m_targets_a m_predicates_a m_numbers_a m_puts_a m_codes_a m_weights_a m_sets_a m_picks_a m_classes_a m_steps_a m_told_a cI cZ cB cC m_rules m_changes m_mostTries m_tried m_settled m_found m_isCovered m_covered m_toldMany m_there m_nowl16 m_kinds m_targets m_predicates m_numbers m_puts m_codes m_weights m_sets m_picks m_classesl16 m_steps m_told) H → va_D A (wX m_a m_there_a m_now_a m_kinds_a m_targets_a m_predicates_a m_numbers_a m_puts_a m_codes_a m_weights_a m_sets_a m_picks_a m_classes_a m_steps_a m_told_a cI cZ cB cC m_rules m_changes m_mostTries m_tried m_settled m_found m_isCovered m_covered m_toldMany m_there m_nowl16 m_kinds m_targets m_predicates m_numbers m_puts m_codes m_weights m_sets m_picks m_classesl16 m_steps m_told) → va_S A s.heap H locs → lv_has ls 7 [(4, .int i4l16), (3, .int i3l16), (0, .ref m_a), (1, .int v1), (2, .int v2)] → W p l e (headSpec wsK5_breaks rmK5_breaks).room s m ([.ref m_a, .int v1, .int v2] : List Value).toArray below meth c H locs 0 0 (MQ below (QI D A r0 (wX m_a m_there_a m_now_a m_kinds_a m_targets_a m_predicates_a m_numbers_a m_puts_a m_codes_a m_weights_a m_sets_a m_picks_a m_classes_a m_steps_a m_told_a cI cZ cB cC m_rules m_changes m_mostTries m_tried m_settled m_found m_isCovered m_covered m_toldMany m_there m_now_r m_kinds m_targets m_predicates m_numbers m_puts m_codes m_weights m_sets m_picks m_classes_r m_steps m_told)) ([.ref m_a, .int v1, .int v2] : List Value).toArray s 0 0 A) (F0 m 16 ls []) := by
      intro n16
      induction n16 with
      | zero => intro i3l16 i4l16 m_nowl16 m_classesl16 H locs ls hm; exact nomatch (show none = _ from hm)
      | succ n16 ih16 =>
        intro i3l16 i4l16 m_nowl16 m_classesl16 H locs ls hm hP hD hS hl
        replace hm : mK5_breaks_B16 m_rules m_changes m_there m_kinds m_targets m_predicates m_numbers m_puts m_codes m_sets v1 v2 (mK5_breaks_A16) (mK5_breaks_L16 m_rules m_changes m_there m_kinds m_targets m_predicates m_numbers m_puts m_codes m_sets v1 v2 (mK5_breaks_A16) n16) i3l16 i4l16 m_nowl16 m_classesl16 = some (r0, m_now_r, m_classes_r) := hm
        unfold mK5_breaks_B16 at hm
        refine lv_iload hx hb dK5_breaks_16 (lv_at hl 0 rfl) ?_
        refine lv_bipush (v := 12) hx hb dK5_breaks_18 (by decide) ?_
        refine lv_aload_n hx hb dK5_breaks_20 rfl (lv_at hl 2 rfl) ?_
        refine va_get (D := D) (ci := 5) (v := .int m_rules) (C := RK5) (T := TK5) (N := 23) hx hb hts inK5 hown hK hP 0 rfl rfl 2 (by decide) (hts _ wdt3_188) (fun _ h9 => h9) rfl dK5_breaks_21 ?_
        refine lv_imul hx hb dK5_breaks_24 ?_
        refine lv_icmp_ge (tgt := 123) hx hb dK5_breaks_25 (by decide) (fun hc => ?_) (fun hc => ?_)
        · replace hm := ift hm hc
          exact lx16 m_nowl16 m_classesl16 _ _ _ hm hP hD hS (lv_sub hl [] rfl)
        · replace hm := iff_ hm hc
          refine lv_iload_n hx hb dK5_breaks_28 rfl (lv_at hl 4 rfl) ?_
          refine lv_if_lt (tgt := 123) hx hb dK5_breaks_29 (by decide) (fun hc => ?_) (fun hc => ?_)
          · replace hm := ift hm hc
            exact lx16 m_nowl16 m_classesl16 _ _ _ hm hP hD hS (lv_sub hl [] rfl)
          · replace hm := iff_ hm hc
            refine lv_aload_n hx hb dK5_breaks_32 rfl (lv_at hl 2 rfl) ?_
            refine lv_iconst (v := 0) hx hb dK5_breaks_33 (by decide) ?_
            obtain ⟨x3, ec4, hm⟩ := bd1_s hm
            have hPc := hP.sub (ws' := (wX m_a m_there_a m_now_a m_kinds_a m_targets_a m_predicates_a m_numbers_a m_puts_a m_codes_a m_weights_a m_sets_a m_picks_a m_classes_a m_steps_a m_told_a cI cZ cB cC m_rules m_changes m_mostTries m_tried m_settled m_found m_isCovered m_covered m_toldMany m_there m_nowl16 m_kinds m_targets m_predicates m_numbers m_puts m_codes m_weights m_sets m_picks m_classesl16 m_steps m_told)) [0, 1, 2, 3, 4, 5, 6, 7, 8, 9, 10, 11, 12, 13, 14] rfl
            have hDc := hD.sub (ws' := (wX m_a m_there_a m_now_a m_kinds_a m_targets_a m_predicates_a m_numbers_a m_puts_a m_codes_a m_weights_a m_sets_a m_picks_a m_classes_a m_steps_a m_told_a cI cZ cB cC m_rules m_changes m_mostTries m_tried m_settled m_found m_isCovered m_covered m_toldMany m_there m_nowl16 m_kinds m_targets m_predicates m_numbers m_puts m_codes m_weights m_sets m_picks m_classesl16 m_steps m_told)) [0, 1, 2, 3, 4, 5, 6, 7, 8, 9, 10, 11, 12, 13, 14] (by decide) rfl
            refine k_callv (wr := []) (w1 := (wX m_a m_there_a m_now_a m_kinds_a m_targets_a m_predicates_a m_numbers_a m_puts_a m_codes_a m_weights_a m_sets_a m_picks_a m_classes_a m_steps_a m_told_a cI cZ cB cC m_rules m_changes m_mostTries m_tried m_settled m_found m_isCovered m_covered m_toldMany m_there x3 m_kinds m_targets m_predicates m_numbers m_puts m_codes m_weights m_sets m_picks m_classesl16 m_steps m_told)) (ws' := (wX m_a m_there_a m_now_a m_kinds_a m_targets_a m_predicates_a m_numbers_a m_puts_a m_codes_a m_weights_a m_sets_a m_picks_a m_classes_a m_steps_a m_told_a cI cZ cB cC m_rules m_changes m_mostTries m_tried m_settled m_found m_isCovered m_covered m_toldMany m_there x3 m_kinds m_targets m_predicates m_numbers m_puts m_codes m_weights m_sets m_picks m_classesl16 m_steps m_told)) (va_runV (As := [.int 0]) (rest := []) ⟨hx, hb, hml, hown, hts⟩ (kK5_begin l D cI cZ cB cC H.size m_a m_there_a m_now_a m_kinds_a m_targets_a m_predicates_a m_numbers_a m_puts_a m_codes_a m_weights_a m_sets_a m_picks_a m_classes_a m_steps_a m_told_a m_rules m_changes m_mostTries m_tried m_settled m_found m_isCovered m_covered m_toldMany m_there m_nowl16 m_kinds m_targets m_predicates m_numbers m_puts m_codes m_weights m_sets m_picks m_classesl16 m_steps m_told 0 x3 ec4) (cwV 1 hts (gdV wdt4_41 wdt4_43 wds1_12 wdt1_10 gkK5_begin) rfl rfl rfl (by decide +kernel) ⟨Nat.le_of_ble_eq_true rfl, Nat.le_of_ble_eq_true rfl⟩) ⟨Pr_blind, va_recv hK hPc (ci := 5) (q0 := 0) rfl rfl, fun U hU hW => ⟨rfl, Pr_at hK hN hPc hDc hU hW⟩⟩ rfl rfl hl.1 rfl (lv_room (Nat.le_of_ble_eq_true rfl)) dK5_breaks_34 ⟨Nat.le_of_ble_eq_true rfl, Nat.le_of_ble_eq_true rfl⟩) hP hD hS hA [0, 1, 2, 3, 4, 5, 6, 7, 8, 9, 10, 11, 12, 13, 14] [] [0, 1, 2, 3, 4, 5, 6, 7, 8, 9, 10, 11, 12, 13, 14] rfl rfl (by decide) (by decide) (by decide) rfl (fun H locs hP hD hS => ?_)
            refine lv_aload_n hx hb dK5_breaks_37 rfl (lv_at hl 2 rfl) ?_
            refine lv_iload hx hb dK5_breaks_38 (lv_at hl 0 rfl) ?_
            refine lv_bipush (v := 12) hx hb dK5_breaks_40 (by decide) ?_
            refine lv_idiv hx hb dK5_breaks_42 (by decide) ?_
            refine lv_iload hx hb dK5_breaks_43 (lv_at hl 0 rfl) ?_
            refine lv_bipush (v := 12) hx hb dK5_breaks_45 (by decide) ?_
            refine lv_irem hx hb dK5_breaks_47 (by decide) ?_
            obtain ⟨x5, x6, ec7, hm⟩ := bd2_s hm
            have hPc := hP.sub (ws' := (wX m_a m_there_a m_now_a m_kinds_a m_targets_a m_predicates_a m_numbers_a m_puts_a m_codes_a m_weights_a m_sets_a m_picks_a m_classes_a m_steps_a m_told_a cI cZ cB cC m_rules m_changes m_mostTries m_tried m_settled m_found m_isCovered m_covered m_toldMany m_there x3 m_kinds m_targets m_predicates m_numbers m_puts m_codes m_weights m_sets m_picks m_classesl16 m_steps m_told)) [0, 1, 2, 3, 4, 5, 6, 7, 8, 9, 10, 11, 12, 13, 14] rfl
            have hDc := hD.sub (ws' := (wX m_a m_there_a m_now_a m_kinds_a m_targets_a m_predicates_a m_numbers_a m_puts_a m_codes_a m_weights_a m_sets_a m_picks_a m_classes_a m_steps_a m_told_a cI cZ cB cC m_rules m_changes m_mostTries m_tried m_settled m_found m_isCovered m_covered m_toldMany m_there x3 m_kinds m_targets m_predicates m_numbers m_puts m_codes m_weights m_sets m_picks m_classesl16 m_steps m_told)) [0, 1, 2, 3, 4, 5, 6, 7, 8, 9, 10, 11, 12, 13, 14] (by decide) rfl
            refine k_calli (wr := []) (w1 := (wX m_a m_there_a m_now_a m_kinds_a m_targets_a m_predicates_a m_numbers_a m_puts_a m_codes_a m_weights_a m_sets_a m_picks_a m_classes_a m_steps_a m_told_a cI cZ cB cC m_rules m_changes m_mostTries m_tried m_settled m_found m_isCovered m_covered m_toldMany m_there x3 m_kinds m_targets m_predicates m_numbers m_puts m_codes m_weights m_sets m_picks x6 m_steps m_told)) (ws' := (wX m_a m_there_a m_now_a m_kinds_a m_targets_a m_predicates_a m_numbers_a m_puts_a m_codes_a m_weights_a m_sets_a m_picks_a m_classes_a m_steps_a m_told_a cI cZ cB cC m_rules m_changes m_mostTries m_tried m_settled m_found m_isCovered m_covered m_toldMany m_there x3 m_kinds m_targets m_predicates m_numbers m_puts m_codes m_weights m_sets m_picks x6 m_steps m_told)) (va_runV (As := [.int (i4l16 / 12), .int (i4l16 - i4l16 / 12 * 12)]) (rest := []) ⟨hx, hb, hml, hown, hts⟩ (kK5_isResult l D cI cZ cB cC H.size m_a m_there_a m_now_a m_kinds_a m_targets_a m_predicates_a m_numbers_a m_puts_a m_codes_a m_weights_a m_sets_a m_picks_a m_classes_a m_steps_a m_told_a m_rules m_changes m_mostTries m_tried m_settled m_found m_isCovered m_covered m_toldMany m_there x3 m_kinds m_targets m_predicates m_numbers m_puts m_codes m_weights m_sets m_picks m_classesl16 m_steps m_told (i4l16 / 12) (i4l16 - i4l16 / 12 * 12) x5 x6 ec7) (cwV 2 hts (gdV wdt4_49 wdt4_51 wds1_14 wdt1_10 gkK5_isResult) rfl rfl rfl (by decide +kernel) ⟨Nat.le_of_ble_eq_true rfl, Nat.le_of_ble_eq_true rfl⟩) ⟨Pr_blind, va_recv hK hPc (ci := 5) (q0 := 0) rfl rfl, fun U hU hW => ⟨rfl, Pr_at hK hN hPc hDc hU hW⟩⟩ rfl rfl hl.1 rfl (lv_room (Nat.le_of_ble_eq_true rfl)) dK5_breaks_48 ⟨Nat.le_of_ble_eq_true rfl, Nat.le_of_ble_eq_true rfl⟩) hP hD hS hA [0, 1, 2, 3, 4, 5, 6, 7, 8, 9, 10, 11, 12, 13, 14] [] [0, 1, 2, 3, 4, 5, 6, 7, 8, 9, 10, 11, 12, 13, 14] rfl rfl (by decide) (by decide) (by decide) rfl (fun H locs hP hD hS => ?_)
            refine lv_istore (lv' := [(5, .int x5), (4, .int i4l16), (3, .int i3l16), (0, .ref m_a), (1, .int v1), (2, .int v2)]) hx hb dK5_breaks_51 hl (by decide) rfl (fun ls hl => ?_)
            refine lv_aload_n hx hb dK5_breaks_53 rfl (lv_at hl 3 rfl) ?_
            refine lv_aload_n hx hb dK5_breaks_54 rfl (lv_at hl 3 rfl) ?_
            refine va_get (D := D) (ci := 5) (v := .ref m_sets_a) (C := RK5) (T := TK5) (N := 23) hx hb hts inK5 hown hK hP 0 rfl rfl 15 (by decide) (hts _ wdt3_201) (fun _ h9 => h9) rfl dK5_breaks_55 ?_
            refine lv_iload_n hx hb dK5_breaks_58 rfl (lv_at hl 4 rfl) ?_
            obtain ⟨x8, ex8, hm⟩ := bd1_s hm
            obtain ⟨hix8, ex8⟩ := rd_s ex8
            refine va_iald hx hb hK hP 10 0 rfl rfl hix8 dK5_breaks_59 ?_
            refine topi ex8 ?_
            obtain ⟨x9, ec10, hm⟩ := bd1_s hm
            have hPc := hP.sub (ws' := (wX m_a m_there_a m_now_a m_kinds_a m_targets_a m_predicates_a m_numbers_a m_puts_a m_codes_a m_weights_a m_sets_a m_picks_a m_classes_a m_steps_a m_told_a cI cZ cB cC m_rules m_changes m_mostTries m_tried m_settled m_found m_isCovered m_covered m_toldMany m_there x3 m_kinds m_targets m_predicates m_numbers m_puts m_codes m_weights m_sets m_picks x6 m_steps m_told)) [0, 1, 2, 3, 4, 5, 6, 7, 8, 9, 10, 11, 12, 13, 14] rfl
            have hDc := hD.sub (ws' := (wX m_a m_there_a m_now_a m_kinds_a m_targets_a m_predicates_a m_numbers_a m_puts_a m_codes_a m_weights_a m_sets_a m_picks_a m_classes_a m_steps_a m_told_a cI cZ cB cC m_rules m_changes m_mostTries m_tried m_settled m_found m_isCovered m_covered m_toldMany m_there x3 m_kinds m_targets m_predicates m_numbers m_puts m_codes m_weights m_sets m_picks x6 m_steps m_told)) [0, 1, 2, 3, 4, 5, 6, 7, 8, 9, 10, 11, 12, 13, 14] (by decide) rfl
            refine k_callv (wr := []) (w1 := (wX m_a m_there_a m_now_a m_kinds_a m_targets_a m_predicates_a m_numbers_a m_puts_a m_codes_a m_weights_a m_sets_a m_picks_a m_classes_a m_steps_a m_told_a cI cZ cB cC m_rules m_changes m_mostTries m_tried m_settled m_found m_isCovered m_covered m_toldMany m_there x9 m_kinds m_targets m_predicates m_numbers m_puts m_codes m_weights m_sets m_picks x6 m_steps m_told)) (ws' := (wX m_a m_there_a m_now_a m_kinds_a m_targets_a m_predicates_a m_numbers_a m_puts_a m_codes_a m_weights_a m_sets_a m_picks_a m_classes_a m_steps_a m_told_a cI cZ cB cC m_rules m_changes m_mostTries m_tried m_settled m_found m_isCovered m_covered m_toldMany m_there x9 m_kinds m_targets m_predicates m_numbers m_puts m_codes m_weights m_sets m_picks x6 m_steps m_told)) (va_runV (As := [.int x8]) (rest := []) ⟨hx, hb, hml, hown, hts⟩ (kK5_begin l D cI cZ cB cC H.size m_a m_there_a m_now_a m_kinds_a m_targets_a m_predicates_a m_numbers_a m_puts_a m_codes_a m_weights_a m_sets_a m_picks_a m_classes_a m_steps_a m_told_a m_rules m_changes m_mostTries m_tried m_settled m_found m_isCovered m_covered m_toldMany m_there x3 m_kinds m_targets m_predicates m_numbers m_puts m_codes m_weights m_sets m_picks x6 m_steps m_told x8 x9 ec10) (cwV 1 hts (gdV wdt4_41 wdt4_43 wds1_12 wdt1_10 gkK5_begin) rfl rfl rfl (by decide +kernel) ⟨Nat.le_of_ble_eq_true rfl, Nat.le_of_ble_eq_true rfl⟩) ⟨Pr_blind, va_recv hK hPc (ci := 5) (q0 := 0) rfl rfl, fun U hU hW => ⟨rfl, Pr_at hK hN hPc hDc hU hW⟩⟩ rfl rfl hl.1 rfl (lv_room (Nat.le_of_ble_eq_true rfl)) dK5_breaks_60 ⟨Nat.le_of_ble_eq_true rfl, Nat.le_of_ble_eq_true rfl⟩) hP hD hS hA [0, 1, 2, 3, 4, 5, 6, 7, 8, 9, 10, 11, 12, 13, 14] [] [0, 1, 2, 3, 4, 5, 6, 7, 8, 9, 10, 11, 12, 13, 14] rfl rfl (by decide) (by decide) (by decide) rfl (fun H locs hP hD hS => ?_)
            refine lv_iload hx hb dK5_breaks_63 (lv_at hl 0 rfl) ?_
            have jn90 : ∀ (s0j90 : Int32) (m_classesj90 : Nat → Int32) (H : Heap) (locs : List Loc) (ls : Array Slot), mK5_breaks_J90 i3l16 i4l16 (mK5_breaks_L16 m_rules m_changes m_there m_kinds m_targets m_predicates m_numbers m_puts m_codes m_sets v1 v2 (mK5_breaks_A16) n16) x9 s0j90 m_classesj90 = some (r0, m_now_r, m_classes_r) → va_P D vwCl (wX m_a m_there_a m_now_a m_kinds_a m_targets_a m_predicates_a m_numbers_a m_puts_a m_codes_a m_weights_a m_sets_a m_picks_a m_classes_a m_steps_a m_told_a cI cZ cB cC m_rules m_changes m_mostTries m_tried m_settled m_found m_isCovered m_covered m_toldMany m_there x9 m_kinds m_targets m_predicates m_numbers m_puts m_codes m_weights m_sets m_picks m_classesj90 m_steps m_told) H → va_D A (wX m_a m_there_a m_now_a m_kinds_a m_targets_a m_predicates_a m_numbers_a m_puts_a m_codes_a m_weights_a m_sets_a m_picks_a m_classes_a m_steps_a m_told_a cI cZ cB cC m_rules m_changes m_mostTries m_tried m_settled m_found m_isCovered m_covered m_toldMany m_there x9 m_kinds m_targets m_predicates m_numbers m_puts m_codes m_weights m_sets m_picks m_classesj90 m_steps m_told) → va_S A s.heap H locs → lv_has ls 7 [(0, .ref m_a), (1, .int v1), (2, .int v2), (3, .int i3l16), (4, .int i4l16)] → W p l e (headSpec wsK5_breaks rmK5_breaks).room s m ([.ref m_a, .int v1, .int v2] : List Value).toArray below meth c H locs 0 0 (MQ below (QI D A r0 (wX m_a m_there_a m_now_a m_kinds_a m_targets_a m_predicates_a m_numbers_a m_puts_a m_codes_a m_weights_a m_sets_a m_picks_a m_classes_a m_steps_a m_told_a cI cZ cB cC m_rules m_changes m_mostTries m_tried m_settled m_found m_isCovered m_covered m_toldMany m_there m_now_r m_kinds m_targets m_predicates m_numbers m_puts m_codes m_weights m_sets m_picks m_classes_r m_steps m_told)) ([.ref m_a, .int v1, .int v2] : List Value).toArray s 0 0 A) (F0 m 90 ls [.int s0j90]) := by
              intro s0j90 m_classesj90 H locs ls hm hP hD hS hl
              unfold mK5_breaks_J90 at hm
              refine lv_istore (lv' := [(6, .int s0j90), (0, .ref m_a), (1, .int v1), (2, .int v2), (3, .int i3l16), (4, .int i4l16)]) hx hb dK5_breaks_90 hl (by decide) rfl (fun ls hl => ?_)
              refine lv_iload hx hb dK5_breaks_92 (lv_at hl 0 rfl) ?_
              refine lv_if_eq (tgt := 104) hx hb dK5_breaks_94 (by decide) (fun hc => ?_) (fun hc => ?_)
              · replace hm := ift hm hc
                refine lv_iload_n hx hb dK5_breaks_104 rfl (lv_at hl 4 rfl) ?_
                refine lv_iload hx hb dK5_breaks_105 (lv_at hl 0 rfl) ?_
                refine lv_if_eq (tgt := 114) hx hb dK5_breaks_107 (by decide) (fun hc => ?_) (fun hc => ?_)
                · replace hm := ift hm hc
                  refine lv_iconst (v := 0) hx hb dK5_breaks_114 (by decide) ?_
                  refine lv_isub hx hb dK5_breaks_115 ?_
                  obtain ⟨x11, ex11, hm⟩ := bd1_s hm
                  refine topi (Option.some.inj ex11) ?_
                  refine lv_istore_n (lv' := [(3, .int x11), (6, .int s0j90), (0, .ref m_a), (1, .int v1), (2, .int v2), (4, .int i4l16)]) hx hb dK5_breaks_116 rfl hl (by decide) rfl (fun ls hl => ?_)
                  obtain ⟨x12, ex12, hm⟩ := bd1_s hm
                  refine lv_iinc (v := x12) (lv' := [(4, .int x12), (3, .int x11), (6, .int s0j90), (0, .ref m_a), (1, .int v1), (2, .int v2)]) hx hb dK5_breaks_117 hl (k := 5) rfl (by rw [← Option.some.inj ex12]; rfl) (by decide) rfl (fun ls hl => ?_)
                  refine lv_goto (tgt := 16) hx hb dK5_breaks_120 (by decide) ?_
                  exact ih16 x11 x12 x9 m_classesj90 _ _ _ hm hP hD hS (lv_sub hl [0, 1, 3, 4, 5] rfl)
                · replace hm := iff_ hm hc
                  refine lv_iconst (v := 1) hx hb dK5_breaks_110 (by decide) ?_
                  refine lv_goto (tgt := 115) hx hb dK5_breaks_111 (by decide) ?_
                  refine lv_isub hx hb dK5_breaks_115 ?_
                  obtain ⟨x13, ex13, hm⟩ := bd1_s hm
                  refine topi (Option.some.inj ex13) ?_
                  refine lv_istore_n (lv' := [(3, .int x13), (6, .int s0j90), (0, .ref m_a), (1, .int v1), (2, .int v2), (4, .int i4l16)]) hx hb dK5_breaks_116 rfl hl (by decide) rfl (fun ls hl => ?_)
                  obtain ⟨x14, ex14, hm⟩ := bd1_s hm
                  refine lv_iinc (v := x14) (lv' := [(4, .int x14), (3, .int x13), (6, .int s0j90), (0, .ref m_a), (1, .int v1), (2, .int v2)]) hx hb dK5_breaks_117 hl (k := 5) rfl (by rw [← Option.some.inj ex14]; rfl) (by decide) rfl (fun ls hl => ?_)
                  refine lv_goto (tgt := 16) hx hb dK5_breaks_120 (by decide) ?_
                  exact ih16 x13 x14 x9 m_classesj90 _ _ _ hm hP hD hS (lv_sub hl [0, 1, 3, 4, 5] rfl)
              · replace hm := iff_ hm hc
                refine lv_iload_n hx hb dK5_breaks_97 rfl (lv_at hl 4 rfl) ?_
                refine lv_if_ne (tgt := 104) hx hb dK5_breaks_98 (by decide) (fun hc => ?_) (fun hc => ?_)
                · replace hm := iff_ hm hc
                  refine lv_iload_n hx hb dK5_breaks_104 rfl (lv_at hl 4 rfl) ?_
                  refine lv_iload hx hb dK5_breaks_105 (lv_at hl 0 rfl) ?_
                  refine lv_if_eq (tgt := 114) hx hb dK5_breaks_107 (by decide) (fun hc => ?_) (fun hc => ?_)
                  · replace hm := ift hm hc
                    refine lv_iconst (v := 0) hx hb dK5_breaks_114 (by decide) ?_
                    refine lv_isub hx hb dK5_breaks_115 ?_
                    obtain ⟨x15, ex15, hm⟩ := bd1_s hm
                    refine topi (Option.some.inj ex15) ?_
                    refine lv_istore_n (lv' := [(3, .int x15), (6, .int s0j90), (0, .ref m_a), (1, .int v1), (2, .int v2), (4, .int i4l16)]) hx hb dK5_breaks_116 rfl hl (by decide) rfl (fun ls hl => ?_)
                    obtain ⟨x16, ex16, hm⟩ := bd1_s hm
                    refine lv_iinc (v := x16) (lv' := [(4, .int x16), (3, .int x15), (6, .int s0j90), (0, .ref m_a), (1, .int v1), (2, .int v2)]) hx hb dK5_breaks_117 hl (k := 5) rfl (by rw [← Option.some.inj ex16]; rfl) (by decide) rfl (fun ls hl => ?_)
                    refine lv_goto (tgt := 16) hx hb dK5_breaks_120 (by decide) ?_
                    exact ih16 x15 x16 x9 m_classesj90 _ _ _ hm hP hD hS (lv_sub hl [0, 1, 3, 4, 5] rfl)
                  · replace hm := iff_ hm hc
                    refine lv_iconst (v := 1) hx hb dK5_breaks_110 (by decide) ?_
                    refine lv_goto (tgt := 115) hx hb dK5_breaks_111 (by decide) ?_
                    refine lv_isub hx hb dK5_breaks_115 ?_
                    obtain ⟨x17, ex17, hm⟩ := bd1_s hm
                    refine topi (Option.some.inj ex17) ?_
                    refine lv_istore_n (lv' := [(3, .int x17), (6, .int s0j90), (0, .ref m_a), (1, .int v1), (2, .int v2), (4, .int i4l16)]) hx hb dK5_breaks_116 rfl hl (by decide) rfl (fun ls hl => ?_)
                    obtain ⟨x18, ex18, hm⟩ := bd1_s hm
                    refine lv_iinc (v := x18) (lv' := [(4, .int x18), (3, .int x17), (6, .int s0j90), (0, .ref m_a), (1, .int v1), (2, .int v2)]) hx hb dK5_breaks_117 hl (k := 5) rfl (by rw [← Option.some.inj ex18]; rfl) (by decide) rfl (fun ls hl => ?_)
                    refine lv_goto (tgt := 16) hx hb dK5_breaks_120 (by decide) ?_
                    exact ih16 x17 x18 x9 m_classesj90 _ _ _ hm hP hD hS (lv_sub hl [0, 1, 3, 4, 5] rfl)
                · replace hm := ift hm hc
                  refine lv_iload hx hb dK5_breaks_101 (lv_at hl 5 rfl) ?_
                  replace hm := Option.some.inj hm
                  simp only [Prod.mk.injEq] at hm
                  obtain ⟨rfl, rfl, rfl⟩ := hm
                  exact k_reti hx hb hr hlocks hP hD hS dK5_breaks_103
            have jn89 : ∀ (m_classesj89 : Nat → Int32) (H : Heap) (locs : List Loc) (ls : Array Slot), mK5_breaks_J89 i3l16 i4l16 (mK5_breaks_L16 m_rules m_changes m_there m_kinds m_targets m_predicates m_numbers m_puts m_codes m_sets v1 v2 (mK5_breaks_A16) n16) x9 m_classesj89 = some (r0, m_now_r, m_classes_r) → va_P D vwCl (wX m_a m_there_a m_now_a m_kinds_a m_targets_a m_predicates_a m_numbers_a m_puts_a m_codes_a m_weights_a m_sets_a m_picks_a m_classes_a m_steps_a m_told_a cI cZ cB cC m_rules m_changes m_mostTries m_tried m_settled m_found m_isCovered m_covered m_toldMany m_there x9 m_kinds m_targets m_predicates m_numbers m_puts m_codes m_weights m_sets m_picks m_classesj89 m_steps m_told) H → va_D A (wX m_a m_there_a m_now_a m_kinds_a m_targets_a m_predicates_a m_numbers_a m_puts_a m_codes_a m_weights_a m_sets_a m_picks_a m_classes_a m_steps_a m_told_a cI cZ cB cC m_rules m_changes m_mostTries m_tried m_settled m_found m_isCovered m_covered m_toldMany m_there x9 m_kinds m_targets m_predicates m_numbers m_puts m_codes m_weights m_sets m_picks m_classesj89 m_steps m_told) → va_S A s.heap H locs → lv_has ls 7 [(0, .ref m_a), (1, .int v1), (2, .int v2), (3, .int i3l16), (4, .int i4l16)] → W p l e (headSpec wsK5_breaks rmK5_breaks).room s m ([.ref m_a, .int v1, .int v2] : List Value).toArray below meth c H locs 0 0 (MQ below (QI D A r0 (wX m_a m_there_a m_now_a m_kinds_a m_targets_a m_predicates_a m_numbers_a m_puts_a m_codes_a m_weights_a m_sets_a m_picks_a m_classes_a m_steps_a m_told_a cI cZ cB cC m_rules m_changes m_mostTries m_tried m_settled m_found m_isCovered m_covered m_toldMany m_there m_now_r m_kinds m_targets m_predicates m_numbers m_puts m_codes m_weights m_sets m_picks m_classes_r m_steps m_told)) ([.ref m_a, .int v1, .int v2] : List Value).toArray s 0 0 A) (F0 m 89 ls []) := by
              intro m_classesj89 H locs ls hm hP hD hS hl
              unfold mK5_breaks_J89 at hm
              refine lv_iconst (v := 0) hx hb dK5_breaks_89 (by decide) ?_
              exact jn90 0 m_classesj89 _ _ _ hm hP hD hS (lv_sub hl [0, 1, 2, 3, 4] rfl)
            refine lv_if_ne (tgt := 89) hx hb dK5_breaks_65 (by decide) (fun hc => ?_) (fun hc => ?_)
            · replace hm := iff_ hm hc
              exact jn89 x6 _ _ _ hm hP hD hS (lv_sub hl [3, 4, 5, 2, 1] rfl)
            · replace hm := ift hm hc
              refine lv_aload_n hx hb dK5_breaks_68 rfl (lv_at hl 3 rfl) ?_
              refine lv_iload hx hb dK5_breaks_69 (lv_at hl 1 rfl) ?_
              refine lv_bipush (v := 12) hx hb dK5_breaks_71 (by decide) ?_
              refine lv_idiv hx hb dK5_breaks_73 (by decide) ?_
              refine lv_iload hx hb dK5_breaks_74 (lv_at hl 1 rfl) ?_
              refine lv_bipush (v := 12) hx hb dK5_breaks_76 (by decide) ?_
              refine lv_irem hx hb dK5_breaks_78 (by decide) ?_
              obtain ⟨x19, x20, ec21, hm⟩ := bd2_s hm
              have hPc := hP.sub (ws' := (wX m_a m_there_a m_now_a m_kinds_a m_targets_a m_predicates_a m_numbers_a m_puts_a m_codes_a m_weights_a m_sets_a m_picks_a m_classes_a m_steps_a m_told_a cI cZ cB cC m_rules m_changes m_mostTries m_tried m_settled m_found m_isCovered m_covered m_toldMany m_there x9 m_kinds m_targets m_predicates m_numbers m_puts m_codes m_weights m_sets m_picks x6 m_steps m_told)) [0, 1, 2, 3, 4, 5, 6, 7, 8, 9, 10, 11, 12, 13, 14] rfl
              have hDc := hD.sub (ws' := (wX m_a m_there_a m_now_a m_kinds_a m_targets_a m_predicates_a m_numbers_a m_puts_a m_codes_a m_weights_a m_sets_a m_picks_a m_classes_a m_steps_a m_told_a cI cZ cB cC m_rules m_changes m_mostTries m_tried m_settled m_found m_isCovered m_covered m_toldMany m_there x9 m_kinds m_targets m_predicates m_numbers m_puts m_codes m_weights m_sets m_picks x6 m_steps m_told)) [0, 1, 2, 3, 4, 5, 6, 7, 8, 9, 10, 11, 12, 13, 14] (by decide) rfl
              refine k_calli (wr := []) (w1 := (wX m_a m_there_a m_now_a m_kinds_a m_targets_a m_predicates_a m_numbers_a m_puts_a m_codes_a m_weights_a m_sets_a m_picks_a m_classes_a m_steps_a m_told_a cI cZ cB cC m_rules m_changes m_mostTries m_tried m_settled m_found m_isCovered m_covered m_toldMany m_there x9 m_kinds m_targets m_predicates m_numbers m_puts m_codes m_weights m_sets m_picks x20 m_steps m_told)) (ws' := (wX m_a m_there_a m_now_a m_kinds_a m_targets_a m_predicates_a m_numbers_a m_puts_a m_codes_a m_weights_a m_sets_a m_picks_a m_classes_a m_steps_a m_told_a cI cZ cB cC m_rules m_changes m_mostTries m_tried m_settled m_found m_isCovered m_covered m_toldMany m_there x9 m_kinds m_targets m_predicates m_numbers m_puts m_codes m_weights m_sets m_picks x20 m_steps m_told)) (va_runV (As := [.int (i4l16 / 12), .int (i4l16 - i4l16 / 12 * 12)]) (rest := []) ⟨hx, hb, hml, hown, hts⟩ (kK5_isResult l D cI cZ cB cC H.size m_a m_there_a m_now_a m_kinds_a m_targets_a m_predicates_a m_numbers_a m_puts_a m_codes_a m_weights_a m_sets_a m_picks_a m_classes_a m_steps_a m_told_a m_rules m_changes m_mostTries m_tried m_settled m_found m_isCovered m_covered m_toldMany m_there x9 m_kinds m_targets m_predicates m_numbers m_puts m_codes m_weights m_sets m_picks x6 m_steps m_told (i4l16 / 12) (i4l16 - i4l16 / 12 * 12) x19 x20 ec21) (cwV 2 hts (gdV wdt4_49 wdt4_51 wds1_14 wdt1_10 gkK5_isResult) rfl rfl rfl (by decide +kernel) ⟨Nat.le_of_ble_eq_true rfl, Nat.le_of_ble_eq_true rfl⟩) ⟨Pr_blind, va_recv hK hPc (ci := 5) (q0 := 0) rfl rfl, fun U hU hW => ⟨rfl, Pr_at hK hN hPc hDc hU hW⟩⟩ rfl rfl hl.1 rfl (lv_room (Nat.le_of_ble_eq_true rfl)) dK5_breaks_79 ⟨Nat.le_of_ble_eq_true rfl, Nat.le_of_ble_eq_true rfl⟩) hP hD hS hA [0, 1, 2, 3, 4, 5, 6, 7, 8, 9, 10, 11, 12, 13, 14] [] [0, 1, 2, 3, 4, 5, 6, 7, 8, 9, 10, 11, 12, 13, 14] rfl rfl (by decide) (by decide) (by decide) rfl (fun H locs hP hD hS => ?_)
              refine lv_if_eq (tgt := 89) hx hb dK5_breaks_82 (by decide) (fun hc => ?_) (fun hc => ?_)
              · replace hm := ift hm hc
                exact jn89 x20 _ _ _ hm hP hD hS (lv_sub hl [3, 4, 5, 2, 1] rfl)
              · replace hm := iff_ hm hc
                refine lv_iconst (v := 1) hx hb dK5_breaks_85 (by decide) ?_
                refine lv_goto (tgt := 90) hx hb dK5_breaks_86 (by decide) ?_
                exact jn90 1 x20 _ _ _ hm hP hD hS (lv_sub hl [3, 4, 5, 2, 1] rfl)
    exact lp16 5000 v2 0 m_now m_classes _ _ _ hm hP hD hS (lv_sub hl [0, 1, 2, 3, 4] rfl)
  · replace hm := ift hm hc
    refine lv_bipush (v := (-2)) hx hb dK5_breaks_8 (by decide) ?_
    replace hm := Option.some.inj hm
    simp only [Prod.mk.injEq] at hm
    obtain ⟨rfl, rfl, rfl⟩ := hm
    exact k_reti hx hb hr hlocks hP hD hS dK5_breaks_10
