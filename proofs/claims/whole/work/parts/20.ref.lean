def mK5_change (m_changes : Int32) (m_puts : Nat → Int32) (m_codes : Nat → Int32) (m_weights : Nat → Int32) (v1 : Int32) (v2 : Int32) (v3 : Int32) (v4 : Int32) (v5 : Int32) : Option (Int32 × Int32 × (Nat → Int32) × (Nat → Int32) × (Nat → Int32)) :=
  bd1 (mK5_isTriple v2 v3 v4) fun x1 => if x1 = 0 then
  (some ((-1), m_changes, m_puts, m_codes, m_weights))
  else
  (bd1 (mK5_in v5 1 9) fun x3 => if x3 = 0 then
    (some ((-1), m_changes, m_puts, m_codes, m_weights))
    else
    (bd1 (mK5_codeOf v2 v3 v4) fun x5 => bd1 (mK5_isThere m_changes m_puts m_codes v1 x5) fun x7 => if x7 = 0 then
      (if m_changes = 12 then
        (some ((-3), m_changes, m_puts, m_codes, m_weights))
        else
        (bd1 (mK5_codeOf v2 v3 v4) fun x9 => bd4 (mK5_enter m_changes m_puts m_codes m_weights v1 x9 v5) fun x11 x12 x13 x14 => some (x11 - 1, x11, x12, x13, x14)))
      else
      (some ((-2), m_changes, m_puts, m_codes, m_weights))))
abbrev rmK5_change : Room := { frames := 2, cells := 0, slots := 0, locals := 44 }
set_option maxHeartbeats 4000000 in
set_option maxRecDepth 100000 in
theorem kK5_change (l : Launch) (D : va_G) (cI cZ cB cC : ClassId) (sz : Nat) (m_a : Nat) (m_there_a : Nat) (m_now_a : Nat) (m_kinds_a : Nat) (m_targets_a : Nat) (m_predicates_a : Nat) (m_numbers_a : Nat) (m_puts_a : Nat) (m_codes_a : Nat) (m_weights_a : Nat) (m_sets_a : Nat) (m_picks_a : Nat) (m_classes_a : Nat) (m_steps_a : Nat) (m_told_a : Nat) (m_rules : Int32) (m_changes : Int32) (m_mostTries : Int32) (m_tried : Int32) (m_settled : Int32) (m_found : Int32) (m_isCovered : Int32) (m_covered : Int32) (m_toldMany : Int32) (m_there : Nat → Int32) (m_now : Nat → Int32) (m_kinds : Nat → Int32) (m_targets : Nat → Int32) (m_predicates : Nat → Int32) (m_numbers : Nat → Int32) (m_puts : Nat → Int32) (m_codes : Nat → Int32) (m_weights : Nat → Int32) (m_sets : Nat → Int32) (m_picks : Nat → Int32) (m_classes : Nat → Int32) (m_steps : Nat → Int32) (m_told : Nat → Int32) (v1 : Int32) (v2 : Int32) (v3 : Int32) (v4 : Int32) (v5 : Int32) (r0 : Int32) (m_changes_r : Int32) (m_puts_r : Nat → Int32) (m_codes_r : Nat → Int32) (m_weights_r : Nat → Int32) (hm : mK5_change m_changes m_puts m_codes m_weights v1 v2 v3 v4 v5 = some (r0, m_changes_r, m_puts_r, m_codes_r, m_weights_r)) : Met l yK5_change wsK5_change rmK5_change (va_Pc [.ref m_a, .int v1, .int v2, .int v3, .int v4, .int v5] (Pr D (tyL cI cZ cB cC) sz (wX m_a m_there_a m_now_a m_kinds_a m_targets_a m_predicates_a m_numbers_a m_puts_a m_codes_a m_weights_a m_sets_a m_picks_a m_classes_a m_steps_a m_told_a cI cZ cB cC m_rules m_changes m_mostTries m_tried m_settled m_found m_isCovered m_covered m_toldMany m_there m_now m_kinds m_targets m_predicates m_numbers m_puts m_codes m_weights m_sets m_picks m_classes m_steps m_told))) (QI D (va_A (wX m_a m_there_a m_now_a m_kinds_a m_targets_a m_predicates_a m_numbers_a m_puts_a m_codes_a m_weights_a m_sets_a m_picks_a m_classes_a m_steps_a m_told_a cI cZ cB cC m_rules m_changes m_mostTries m_tried m_settled m_found m_isCovered m_covered m_toldMany m_there m_now m_kinds m_targets m_predicates m_numbers m_puts m_codes m_weights m_sets m_picks m_classes m_steps m_told) sz) r0 (wX m_a m_there_a m_now_a m_kinds_a m_targets_a m_predicates_a m_numbers_a m_puts_a m_codes_a m_weights_a m_sets_a m_picks_a m_classes_a m_steps_a m_told_a cI cZ cB cC m_rules m_changes_r m_mostTries m_tried m_settled m_found m_isCovered m_covered m_toldMany m_there m_now m_kinds m_targets m_predicates m_numbers m_puts_r m_codes_r m_weights_r m_sets m_picks m_classes m_steps m_told)) 0 0 (va_A (wX m_a m_there_a m_now_a m_kinds_a m_targets_a m_predicates_a m_numbers_a m_puts_a m_codes_a m_weights_a m_sets_a m_picks_a m_classes_a m_steps_a m_told_a cI cZ cB cC m_rules m_changes m_mostTries m_tried m_settled m_found m_isCovered m_covered m_toldMany m_there m_now m_kinds m_targets m_predicates m_numbers m_puts m_codes m_weights m_sets m_picks m_classes m_steps m_told) sz) := by
  refine Met.ofW (cc := cK5_change) (maxL := 6) (ret := (some .int)) (by decide) rfl ?_
  intro p e s m args below meth c s₁ B hml hv
  obtain ⟨rfl, hsz, hP, hK, hD0, hN⟩ := hv
  have hx := B.exec
  have hb := B.bytes
  have hr := B.returns
  have hts := htsA (atoms_spec (ws := wsK5_change) B.pre)
  have hown : s.vm.findClass RK5 = some m.cls := findClass_of_methodNamed B.named
  have hlocks := B.notSynchronized
  subst hsz
  have hD := hD0.self (sz := s.heap.size)
  generalize hAe : va_A (wX m_a m_there_a m_now_a m_kinds_a m_targets_a m_predicates_a m_numbers_a m_puts_a m_codes_a m_weights_a m_sets_a m_picks_a m_classes_a m_steps_a m_told_a cI cZ cB cC m_rules m_changes m_mostTries m_tried m_settled m_found m_isCovered m_covered m_toldMany m_there m_now m_kinds m_targets m_predicates m_numbers m_puts m_codes m_weights m_sets m_picks m_classes m_steps m_told) s.heap.size = A at hD ⊢
  have hA : ∀ q : Nat, s.heap.size ≤ q → A q := fun q h => by rw [← hAe]; exact Or.inr h
  refine kstart (A := A) hP (fun H hP hS => ?_)
  have hl := lv_entry ([.ref m_a, .int v1, .int v2, .int v3, .int v4, .int v5]) (n := 6) (Nat.le_of_ble_eq_true rfl)
  rw [lg_entry_eq]
  generalize (lg_sl ([.ref m_a, .int v1, .int v2, .int v3, .int v4, .int v5]) ++ List.replicate (6 - (lg_sl ([.ref m_a, .int v1, .int v2, .int v3, .int v4, .int v5])).length) Slot.unset).toArray = ls at hl ⊢
  have hl : lv_has ls 6 [(0, .ref m_a), (1, .int v1), (2, .int v2), (3, .int v3), (4, .int v4), (5, .int v5)] := hl
  unfold mK5_change at hm
  refine lv_iload_n hx hb dK5_change_0 rfl (lv_at hl 2 rfl) ?_
  refine lv_iload_n hx hb dK5_change_1 rfl (lv_at hl 3 rfl) ?_
  refine lv_iload hx hb dK5_change_2 (lv_at hl 4 rfl) ?_
  obtain ⟨x1, ec2, hm⟩ := bd1_s hm
  have hPc : va_P D vwCl [] H := va_P0
  have hDc : va_D A [] := va_D0
  refine k_calli0 (va_runS (As := [.int v2, .int v3, .int v4]) (rest := []) ⟨hx, hb, hml, hown, hts⟩ (kK5_isTriple l D cI cZ cB cC H.size v2 v3 v4 x1 ec2) (va_cwS 3 hts (gdS wdt4_20 wdt4_21 wdt1_10 gkK5_isTriple) rfl rfl rfl (by decide +kernel) ⟨Nat.le_of_ble_eq_true rfl, Nat.le_of_ble_eq_true rfl⟩) ⟨Pr_blind, fun U hU hW => ⟨rfl, Pr_at hK hN hPc hDc hU hW⟩⟩ rfl rfl hl.1 rfl (lv_room (Nat.le_of_ble_eq_true rfl)) dK5_change_4 ⟨Nat.le_of_ble_eq_true rfl, Nat.le_of_ble_eq_true rfl⟩) hP hD hS hA (fun H locs hP hD hS => ?_)
  refine lv_if_eq (tgt := 21) hx hb dK5_change_7 (by decide) (fun hc => ?_) (fun hc => ?_)
  · replace hm := ift hm hc
    refine lv_iconst (v := (-1)) hx hb dK5_change_21 (by decide) ?_
    replace hm := Option.some.inj hm
    simp only [Prod.mk.injEq] at hm
    obtain ⟨rfl, rfl, rfl, rfl, rfl⟩ := hm
    exact k_reti hx hb hr hlocks hP hD hS dK5_change_22
  · replace hm := iff_ hm hc
    refine lv_iload hx hb dK5_change_10 (lv_at hl 5 rfl) ?_
    refine lv_iconst (v := 1) hx hb dK5_change_12 (by decide) ?_
    refine lv_bipush (v := 9) hx hb dK5_change_13 (by decide) ?_
    obtain ⟨x3, ec4, hm⟩ := bd1_s hm
    have hPc : va_P D vwCl [] H := va_P0
    have hDc : va_D A [] := va_D0
    refine k_calli0 (va_runS (As := [.int v5, .int 1, .int 9]) (rest := []) ⟨hx, hb, hml, hown, hts⟩ (kK5_in l D cI cZ cB cC H.size v5 1 9 x3 ec4) (va_cwS 3 hts (gdS wdt4_23 wdt4_24 wdt1_10 gkK5_in) rfl rfl rfl (by decide +kernel) ⟨Nat.le_of_ble_eq_true rfl, Nat.le_of_ble_eq_true rfl⟩) ⟨Pr_blind, fun U hU hW => ⟨rfl, Pr_at hK hN hPc hDc hU hW⟩⟩ rfl rfl hl.1 rfl (lv_room (Nat.le_of_ble_eq_true rfl)) dK5_change_15 ⟨Nat.le_of_ble_eq_true rfl, Nat.le_of_ble_eq_true rfl⟩) hP hD hS hA (fun H locs hP hD hS => ?_)
    refine lv_if_ne (tgt := 23) hx hb dK5_change_18 (by decide) (fun hc => ?_) (fun hc => ?_)
    · replace hm := iff_ hm hc
      refine lv_aload_n hx hb dK5_change_23 rfl (lv_at hl 0 rfl) ?_
      refine lv_iload_n hx hb dK5_change_24 rfl (lv_at hl 1 rfl) ?_
      refine lv_iload_n hx hb dK5_change_25 rfl (lv_at hl 2 rfl) ?_
      refine lv_iload_n hx hb dK5_change_26 rfl (lv_at hl 3 rfl) ?_
      refine lv_iload hx hb dK5_change_27 (lv_at hl 4 rfl) ?_
      obtain ⟨x5, ec6, hm⟩ := bd1_s hm
      have hPc : va_P D vwCl [] H := va_P0
      have hDc : va_D A [] := va_D0
      refine k_calli0 (va_runS (As := [.int v2, .int v3, .int v4]) (rest := [.int v1, .ref m_a]) ⟨hx, hb, hml, hown, hts⟩ (kK5_codeOf l D cI cZ cB cC H.size v2 v3 v4 x5 ec6) (va_cwS 3 hts (gdS wdt4_26 wdt4_27 wdt1_10 gkK5_codeOf) rfl rfl rfl (by decide +kernel) ⟨Nat.le_of_ble_eq_true rfl, Nat.le_of_ble_eq_true rfl⟩) ⟨Pr_blind, fun U hU hW => ⟨rfl, Pr_at hK hN hPc hDc hU hW⟩⟩ rfl rfl hl.1 rfl (lv_room (Nat.le_of_ble_eq_true rfl)) dK5_change_29 ⟨Nat.le_of_ble_eq_true rfl, Nat.le_of_ble_eq_true rfl⟩) hP hD hS hA (fun H locs hP hD hS => ?_)
      obtain ⟨x7, ec8, hm⟩ := bd1_s hm
      have hPc := hP.sub (ws' := (wX m_a m_there_a m_now_a m_kinds_a m_targets_a m_predicates_a m_numbers_a m_puts_a m_codes_a m_weights_a m_sets_a m_picks_a m_classes_a m_steps_a m_told_a cI cZ cB cC m_rules m_changes m_mostTries m_tried m_settled m_found m_isCovered m_covered m_toldMany m_there m_now m_kinds m_targets m_predicates m_numbers m_puts m_codes m_weights m_sets m_picks m_classes m_steps m_told)) [0, 1, 2, 3, 4, 5, 6, 7, 8, 9, 10, 11, 12, 13, 14] rfl
      have hDc := hD.sub (ws' := (wX m_a m_there_a m_now_a m_kinds_a m_targets_a m_predicates_a m_numbers_a m_puts_a m_codes_a m_weights_a m_sets_a m_picks_a m_classes_a m_steps_a m_told_a cI cZ cB cC m_rules m_changes m_mostTries m_tried m_settled m_found m_isCovered m_covered m_toldMany m_there m_now m_kinds m_targets m_predicates m_numbers m_puts m_codes m_weights m_sets m_picks m_classes m_steps m_told)) [0, 1, 2, 3, 4, 5, 6, 7, 8, 9, 10, 11, 12, 13, 14] (by decide) rfl
      refine k_calli (wr := []) (w1 := (wX m_a m_there_a m_now_a m_kinds_a m_targets_a m_predicates_a m_numbers_a m_puts_a m_codes_a m_weights_a m_sets_a m_picks_a m_classes_a m_steps_a m_told_a cI cZ cB cC m_rules m_changes m_mostTries m_tried m_settled m_found m_isCovered m_covered m_toldMany m_there m_now m_kinds m_targets m_predicates m_numbers m_puts m_codes m_weights m_sets m_picks m_classes m_steps m_told)) (ws' := (wX m_a m_there_a m_now_a m_kinds_a m_targets_a m_predicates_a m_numbers_a m_puts_a m_codes_a m_weights_a m_sets_a m_picks_a m_classes_a m_steps_a m_told_a cI cZ cB cC m_rules m_changes m_mostTries m_tried m_settled m_found m_isCovered m_covered m_toldMany m_there m_now m_kinds m_targets m_predicates m_numbers m_puts m_codes m_weights m_sets m_picks m_classes m_steps m_told)) (va_runV (As := [.int v1, .int x5]) (rest := []) ⟨hx, hb, hml, hown, hts⟩ (kK5_isThere l D cI cZ cB cC H.size m_a m_there_a m_now_a m_kinds_a m_targets_a m_predicates_a m_numbers_a m_puts_a m_codes_a m_weights_a m_sets_a m_picks_a m_classes_a m_steps_a m_told_a m_rules m_changes m_mostTries m_tried m_settled m_found m_isCovered m_covered m_toldMany m_there m_now m_kinds m_targets m_predicates m_numbers m_puts m_codes m_weights m_sets m_picks m_classes m_steps m_told v1 x5 x7 ec8) (cwV 2 hts (gdV wdt4_81 wdt4_83 wds2_2 wdt1_10 gkK5_isThere) rfl rfl rfl (by decide +kernel) ⟨Nat.le_of_ble_eq_true rfl, Nat.le_of_ble_eq_true rfl⟩) ⟨Pr_blind, va_recv hK hPc (ci := 5) (q0 := 0) rfl rfl, fun U hU hW => ⟨rfl, Pr_at hK hN hPc hDc hU hW⟩⟩ rfl rfl hl.1 rfl (lv_room (Nat.le_of_ble_eq_true rfl)) dK5_change_32 ⟨Nat.le_of_ble_eq_true rfl, Nat.le_of_ble_eq_true rfl⟩) hP hD hS hA [0, 1, 2, 3, 4, 5, 6, 7, 8, 9, 10, 11, 12, 13, 14] [] [0, 1, 2, 3, 4, 5, 6, 7, 8, 9, 10, 11, 12, 13, 14] rfl rfl (by decide) (by decide) (by decide) rfl (fun H locs hP hD hS => ?_)
      refine lv_if_eq (tgt := 41) hx hb dK5_change_35 (by decide) (fun hc => ?_) (fun hc => ?_)
      · replace hm := ift hm hc
        refine lv_aload_n hx hb dK5_change_41 rfl (lv_at hl 0 rfl) ?_
        refine va_get (D := D) (ci := 5) (v := .int m_changes) (C := RK5) (T := TK5) (N := 23) hx hb hts inK5 hown hK hP 0 rfl rfl 7 (by decide) (hts _ wdt3_193) (fun _ h9 => h9) rfl dK5_change_42 ?_
        refine lv_bipush (v := 12) hx hb dK5_change_45 (by decide) ?_
        refine lv_icmp_ne (tgt := 53) hx hb dK5_change_47 (by decide) (fun hc => ?_) (fun hc => ?_)
        · replace hm := iff_ hm hc
          refine lv_aload_n hx hb dK5_change_53 rfl (lv_at hl 0 rfl) ?_
          refine lv_iload_n hx hb dK5_change_54 rfl (lv_at hl 1 rfl) ?_
          refine lv_iload_n hx hb dK5_change_55 rfl (lv_at hl 2 rfl) ?_
          refine lv_iload_n hx hb dK5_change_56 rfl (lv_at hl 3 rfl) ?_
          refine lv_iload hx hb dK5_change_57 (lv_at hl 4 rfl) ?_
          obtain ⟨x9, ec10, hm⟩ := bd1_s hm
          have hPc : va_P D vwCl [] H := va_P0
          have hDc : va_D A [] := va_D0
          refine k_calli0 (va_runS (As := [.int v2, .int v3, .int v4]) (rest := [.int v1, .ref m_a]) ⟨hx, hb, hml, hown, hts⟩ (kK5_codeOf l D cI cZ cB cC H.size v2 v3 v4 x9 ec10) (va_cwS 3 hts (gdS wdt4_26 wdt4_27 wdt1_10 gkK5_codeOf) rfl rfl rfl (by decide +kernel) ⟨Nat.le_of_ble_eq_true rfl, Nat.le_of_ble_eq_true rfl⟩) ⟨Pr_blind, fun U hU hW => ⟨rfl, Pr_at hK hN hPc hDc hU hW⟩⟩ rfl rfl hl.1 rfl (lv_room (Nat.le_of_ble_eq_true rfl)) dK5_change_59 ⟨Nat.le_of_ble_eq_true rfl, Nat.le_of_ble_eq_true rfl⟩) hP hD hS hA (fun H locs hP hD hS => ?_)
          refine lv_iload hx hb dK5_change_62 (lv_at hl 5 rfl) ?_
          obtain ⟨x11, x12, x13, x14, ec15, hm⟩ := bd4_s hm
          have hPc := hP.sub (ws' := (wX m_a m_there_a m_now_a m_kinds_a m_targets_a m_predicates_a m_numbers_a m_puts_a m_codes_a m_weights_a m_sets_a m_picks_a m_classes_a m_steps_a m_told_a cI cZ cB cC m_rules m_changes m_mostTries m_tried m_settled m_found m_isCovered m_covered m_toldMany m_there m_now m_kinds m_targets m_predicates m_numbers m_puts m_codes m_weights m_sets m_picks m_classes m_steps m_told)) [0, 1, 2, 3, 4, 5, 6, 7, 8, 9, 10, 11, 12, 13, 14] rfl
          have hDc := hD.sub (ws' := (wX m_a m_there_a m_now_a m_kinds_a m_targets_a m_predicates_a m_numbers_a m_puts_a m_codes_a m_weights_a m_sets_a m_picks_a m_classes_a m_steps_a m_told_a cI cZ cB cC m_rules m_changes m_mostTries m_tried m_settled m_found m_isCovered m_covered m_toldMany m_there m_now m_kinds m_targets m_predicates m_numbers m_puts m_codes m_weights m_sets m_picks m_classes m_steps m_told)) [0, 1, 2, 3, 4, 5, 6, 7, 8, 9, 10, 11, 12, 13, 14] (by decide) rfl
          refine k_callv (wr := []) (w1 := (wX m_a m_there_a m_now_a m_kinds_a m_targets_a m_predicates_a m_numbers_a m_puts_a m_codes_a m_weights_a m_sets_a m_picks_a m_classes_a m_steps_a m_told_a cI cZ cB cC m_rules x11 m_mostTries m_tried m_settled m_found m_isCovered m_covered m_toldMany m_there m_now m_kinds m_targets m_predicates m_numbers x12 x13 x14 m_sets m_picks m_classes m_steps m_told)) (ws' := (wX m_a m_there_a m_now_a m_kinds_a m_targets_a m_predicates_a m_numbers_a m_puts_a m_codes_a m_weights_a m_sets_a m_picks_a m_classes_a m_steps_a m_told_a cI cZ cB cC m_rules x11 m_mostTries m_tried m_settled m_found m_isCovered m_covered m_toldMany m_there m_now m_kinds m_targets m_predicates m_numbers x12 x13 x14 m_sets m_picks m_classes m_steps m_told)) (va_runV (As := [.int v1, .int x9, .int v5]) (rest := []) ⟨hx, hb, hml, hown, hts⟩ (kK5_enter l D cI cZ cB cC H.size m_a m_there_a m_now_a m_kinds_a m_targets_a m_predicates_a m_numbers_a m_puts_a m_codes_a m_weights_a m_sets_a m_picks_a m_classes_a m_steps_a m_told_a m_rules m_changes m_mostTries m_tried m_settled m_found m_isCovered m_covered m_toldMany m_there m_now m_kinds m_targets m_predicates m_numbers m_puts m_codes m_weights m_sets m_picks m_classes m_steps m_told v1 x9 v5 x11 x12 x13 x14 ec15) (cwV 3 hts (gdV wdt4_85 wdt4_87 wds2_3 wdt1_10 gkK5_enter) rfl rfl rfl (by decide +kernel) ⟨Nat.le_of_ble_eq_true rfl, Nat.le_of_ble_eq_true rfl⟩) ⟨Pr_blind, va_recv hK hPc (ci := 5) (q0 := 0) rfl rfl, fun U hU hW => ⟨rfl, Pr_at hK hN hPc hDc hU hW⟩⟩ rfl rfl hl.1 rfl (lv_room (Nat.le_of_ble_eq_true rfl)) dK5_change_64 ⟨Nat.le_of_ble_eq_true rfl, Nat.le_of_ble_eq_true rfl⟩) hP hD hS hA [0, 1, 2, 3, 4, 5, 6, 7, 8, 9, 10, 11, 12, 13, 14] [] [0, 1, 2, 3, 4, 5, 6, 7, 8, 9, 10, 11, 12, 13, 14] rfl rfl (by decide) (by decide) (by decide) rfl (fun H locs hP hD hS => ?_)
          refine lv_aload_n hx hb dK5_change_67 rfl (lv_at hl 0 rfl) ?_
          refine va_get (D := D) (ci := 5) (v := .int x11) (C := RK5) (T := TK5) (N := 23) hx hb hts inK5 hown hK hP 0 rfl rfl 7 (by decide) (hts _ wdt3_193) (fun _ h9 => h9) rfl dK5_change_68 ?_
          refine lv_iconst (v := 1) hx hb dK5_change_71 (by decide) ?_
          refine lv_isub hx hb dK5_change_72 ?_
          replace hm := Option.some.inj hm
          simp only [Prod.mk.injEq] at hm
          obtain ⟨rfl, rfl, rfl, rfl, rfl⟩ := hm
          exact k_reti hx hb hr hlocks hP hD hS dK5_change_73
        · replace hm := ift hm hc
          refine lv_bipush (v := (-3)) hx hb dK5_change_50 (by decide) ?_
          replace hm := Option.some.inj hm
          simp only [Prod.mk.injEq] at hm
          obtain ⟨rfl, rfl, rfl, rfl, rfl⟩ := hm
          exact k_reti hx hb hr hlocks hP hD hS dK5_change_52
      · replace hm := iff_ hm hc
        refine lv_bipush (v := (-2)) hx hb dK5_change_38 (by decide) ?_
        replace hm := Option.some.inj hm
        simp only [Prod.mk.injEq] at hm
        obtain ⟨rfl, rfl, rfl, rfl, rfl⟩ := hm
        exact k_reti hx hb hr hlocks hP hD hS dK5_change_40
    · replace hm := ift hm hc
      refine lv_iconst (v := (-1)) hx hb dK5_change_21 (by decide) ?_
      replace hm := Option.some.inj hm
      simp only [Prod.mk.injEq] at hm
      obtain ⟨rfl, rfl, rfl, rfl, rfl⟩ := hm
      exact k_reti hx hb hr hlocks hP hD hS dK5_change_22
def mK5_isPair (m_rules : Int32) (v1 : Int32) (v2 : Int32) : Option (Int32) :=
  bd1 (mK5_in v1 0 (m_rules - 1)) fun x1 => if x1 = 0 then
  (some 0)
  else
  (bd1 (mK5_in v2 0 11) fun x3 => if x3 = 0 then
    (some 0)
    else
    (some 1))
abbrev rmK5_isPair : Room := { frames := 1, cells := 0, slots := 0, locals := 22 }
set_option maxHeartbeats 4000000 in
set_option maxRecDepth 100000 in
theorem kK5_isPair (l : Launch) (D : va_G) (cI cZ cB cC : ClassId) (sz : Nat) (m_a : Nat) (m_there_a : Nat) (m_now_a : Nat) (m_kinds_a : Nat) (m_targets_a : Nat) (m_predicates_a : Nat) (m_numbers_a : Nat) (m_puts_a : Nat) (m_codes_a : Nat) (m_weights_a : Nat) (m_sets_a : Nat) (m_picks_a : Nat) (m_classes_a : Nat) (m_steps_a : Nat) (m_told_a : Nat) (m_rules : Int32) (m_changes : Int32) (m_mostTries : Int32) (m_tried : Int32) (m_settled : Int32) (m_found : Int32) (m_isCovered : Int32) (m_covered : Int32) (m_toldMany : Int32) (m_there : Nat → Int32) (m_now : Nat → Int32) (m_kinds : Nat → Int32) (m_targets : Nat → Int32) (m_predicates : Nat → Int32) (m_numbers : Nat → Int32) (m_puts : Nat → Int32) (m_codes : Nat → Int32) (m_weights : Nat → Int32) (m_sets : Nat → Int32) (m_picks : Nat → Int32) (m_classes : Nat → Int32) (m_steps : Nat → Int32) (m_told : Nat → Int32) (v1 : Int32) (v2 : Int32) (r0 : Int32) (hm : mK5_isPair m_rules v1 v2 = some r0) : Met l yK5_isPair wsK5_isPair rmK5_isPair (va_Pc [.ref m_a, .int v1, .int v2] (Pr D (tyL cI cZ cB cC) sz (wX m_a m_there_a m_now_a m_kinds_a m_targets_a m_predicates_a m_numbers_a m_puts_a m_codes_a m_weights_a m_sets_a m_picks_a m_classes_a m_steps_a m_told_a cI cZ cB cC m_rules m_changes m_mostTries m_tried m_settled m_found m_isCovered m_covered m_toldMany m_there m_now m_kinds m_targets m_predicates m_numbers m_puts m_codes m_weights m_sets m_picks m_classes m_steps m_told))) (QI D (va_A (wX m_a m_there_a m_now_a m_kinds_a m_targets_a m_predicates_a m_numbers_a m_puts_a m_codes_a m_weights_a m_sets_a m_picks_a m_classes_a m_steps_a m_told_a cI cZ cB cC m_rules m_changes m_mostTries m_tried m_settled m_found m_isCovered m_covered m_toldMany m_there m_now m_kinds m_targets m_predicates m_numbers m_puts m_codes m_weights m_sets m_picks m_classes m_steps m_told) sz) r0 (wX m_a m_there_a m_now_a m_kinds_a m_targets_a m_predicates_a m_numbers_a m_puts_a m_codes_a m_weights_a m_sets_a m_picks_a m_classes_a m_steps_a m_told_a cI cZ cB cC m_rules m_changes m_mostTries m_tried m_settled m_found m_isCovered m_covered m_toldMany m_there m_now m_kinds m_targets m_predicates m_numbers m_puts m_codes m_weights m_sets m_picks m_classes m_steps m_told)) 0 0 (va_A (wX m_a m_there_a m_now_a m_kinds_a m_targets_a m_predicates_a m_numbers_a m_puts_a m_codes_a m_weights_a m_sets_a m_picks_a m_classes_a m_steps_a m_told_a cI cZ cB cC m_rules m_changes m_mostTries m_tried m_settled m_found m_isCovered m_covered m_toldMany m_there m_now m_kinds m_targets m_predicates m_numbers m_puts m_codes m_weights m_sets m_picks m_classes m_steps m_told) sz) := by
  refine Met.ofW (cc := cK5_isPair) (maxL := 3) (ret := (some .boolean)) (by decide) rfl ?_
  intro p e s m args below meth c s₁ B hml hv
  obtain ⟨rfl, hsz, hP, hK, hD0, hN⟩ := hv
  have hx := B.exec
  have hb := B.bytes
  have hr := B.returns
  have hts := htsA (atoms_spec (ws := wsK5_isPair) B.pre)
  have hown : s.vm.findClass RK5 = some m.cls := findClass_of_methodNamed B.named
  have hlocks := B.notSynchronized
  subst hsz
  have hD := hD0.self (sz := s.heap.size)
  generalize hAe : va_A (wX m_a m_there_a m_now_a m_kinds_a m_targets_a m_predicates_a m_numbers_a m_puts_a m_codes_a m_weights_a m_sets_a m_picks_a m_classes_a m_steps_a m_told_a cI cZ cB cC m_rules m_changes m_mostTries m_tried m_settled m_found m_isCovered m_covered m_toldMany m_there m_now m_kinds m_targets m_predicates m_numbers m_puts m_codes m_weights m_sets m_picks m_classes m_steps m_told) s.heap.size = A at hD ⊢
  have hA : ∀ q : Nat, s.heap.size ≤ q → A q := fun q h => by rw [← hAe]; exact Or.inr h
  refine kstart (A := A) hP (fun H hP hS => ?_)
  have hl := lv_entry ([.ref m_a, .int v1, .int v2]) (n := 3) (Nat.le_of_ble_eq_true rfl)
  rw [lg_entry_eq]
  generalize (lg_sl ([.ref m_a, .int v1, .int v2]) ++ List.replicate (3 - (lg_sl ([.ref m_a, .int v1, .int v2])).length) Slot.unset).toArray = ls at hl ⊢
  have hl : lv_has ls 3 [(0, .ref m_a), (1, .int v1), (2, .int v2)] := hl
  unfold mK5_isPair at hm
  refine lv_iload_n hx hb dK5_isPair_0 rfl (lv_at hl 1 rfl) ?_
  refine lv_iconst (v := 0) hx hb dK5_isPair_1 (by decide) ?_
  refine lv_aload_n hx hb dK5_isPair_2 rfl (lv_at hl 0 rfl) ?_
  refine va_get (D := D) (ci := 5) (v := .int m_rules) (C := RK5) (T := TK5) (N := 23) hx hb hts inK5 hown hK hP 0 rfl rfl 2 (by decide) (hts _ wdt3_188) (fun _ h9 => h9) rfl dK5_isPair_3 ?_
  refine lv_iconst (v := 1) hx hb dK5_isPair_6 (by decide) ?_
  refine lv_isub hx hb dK5_isPair_7 ?_
  obtain ⟨x1, ec2, hm⟩ := bd1_s hm
  have hPc : va_P D vwCl [] H := va_P0
  have hDc : va_D A [] := va_D0
  refine k_calli0 (va_runS (As := [.int v1, .int 0, .int (m_rules - 1)]) (rest := []) ⟨hx, hb, hml, hown, hts⟩ (kK5_in l D cI cZ cB cC H.size v1 0 (m_rules - 1) x1 ec2) (va_cwS 3 hts (gdS wdt4_23 wdt4_24 wdt1_10 gkK5_in) rfl rfl rfl (by decide +kernel) ⟨Nat.le_of_ble_eq_true rfl, Nat.le_of_ble_eq_true rfl⟩) ⟨Pr_blind, fun U hU hW => ⟨rfl, Pr_at hK hN hPc hDc hU hW⟩⟩ rfl rfl hl.1 rfl (lv_room (Nat.le_of_ble_eq_true rfl)) dK5_isPair_8 ⟨Nat.le_of_ble_eq_true rfl, Nat.le_of_ble_eq_true rfl⟩) hP hD hS hA (fun H locs hP hD hS => ?_)
  refine lv_if_eq (tgt := 28) hx hb dK5_isPair_11 (by decide) (fun hc => ?_) (fun hc => ?_)
  · replace hm := ift hm hc
    refine lv_iconst (v := 0) hx hb dK5_isPair_28 (by decide) ?_
    replace hm := Option.some.inj hm
    subst hm
    exact k_retz hx hb hr hlocks rfl hP hD hS dK5_isPair_29
  · replace hm := iff_ hm hc
    refine lv_iload_n hx hb dK5_isPair_14 rfl (lv_at hl 2 rfl) ?_
    refine lv_iconst (v := 0) hx hb dK5_isPair_15 (by decide) ?_
    refine lv_bipush (v := 11) hx hb dK5_isPair_16 (by decide) ?_
    obtain ⟨x3, ec4, hm⟩ := bd1_s hm
    have hPc : va_P D vwCl [] H := va_P0
    have hDc : va_D A [] := va_D0
    refine k_calli0 (va_runS (As := [.int v2, .int 0, .int 11]) (rest := []) ⟨hx, hb, hml, hown, hts⟩ (kK5_in l D cI cZ cB cC H.size v2 0 11 x3 ec4) (va_cwS 3 hts (gdS wdt4_23 wdt4_24 wdt1_10 gkK5_in) rfl rfl rfl (by decide +kernel) ⟨Nat.le_of_ble_eq_true rfl, Nat.le_of_ble_eq_true rfl⟩) ⟨Pr_blind, fun U hU hW => ⟨rfl, Pr_at hK hN hPc hDc hU hW⟩⟩ rfl rfl hl.1 rfl (lv_room (Nat.le_of_ble_eq_true rfl)) dK5_isPair_18 ⟨Nat.le_of_ble_eq_true rfl, Nat.le_of_ble_eq_true rfl⟩) hP hD hS hA (fun H locs hP hD hS => ?_)
    refine lv_if_eq (tgt := 28) hx hb dK5_isPair_21 (by decide) (fun hc => ?_) (fun hc => ?_)
    · replace hm := ift hm hc
      refine lv_iconst (v := 0) hx hb dK5_isPair_28 (by decide) ?_
      replace hm := Option.some.inj hm
      subst hm
      exact k_retz hx hb hr hlocks rfl hP hD hS dK5_isPair_29
    · replace hm := iff_ hm hc
      refine lv_iconst (v := 1) hx hb dK5_isPair_24 (by decide) ?_
      refine lv_goto (tgt := 29) hx hb dK5_isPair_25 (by decide) ?_
      replace hm := Option.some.inj hm
      subst hm
      exact k_retz hx hb hr hlocks rfl hP hD hS dK5_isPair_29
def mK5_offer (m_changes : Int32) (m_puts : Nat → Int32) (m_codes : Nat → Int32) (m_weights : Nat → Int32) (v1 : Int32) (v2 : Int32) : Option (Int32 × (Nat → Int32) × (Nat → Int32) × (Nat → Int32)) :=
  if 12 ≤ m_changes then
  (some (m_changes, m_puts, m_codes, m_weights))
  else
  (bd1 (mK5_isThere m_changes m_puts m_codes v1 v2) fun x1 => if x1 = 0 then
    (bd4 (mK5_enter m_changes m_puts m_codes m_weights v1 v2 1) fun x3 x4 x5 x6 => some (x3, x4, x5, x6))
    else
    (some (m_changes, m_puts, m_codes, m_weights)))
abbrev rmK5_offer : Room := { frames := 1, cells := 0, slots := 0, locals := 24 }
set_option maxHeartbeats 4000000 in
set_option maxRecDepth 100000 in
theorem kK5_offer (l : Launch) (D : va_G) (cI cZ cB cC : ClassId) (sz : Nat) (m_a : Nat) (m_there_a : Nat) (m_now_a : Nat) (m_kinds_a : Nat) (m_targets_a : Nat) (m_predicates_a : Nat) (m_numbers_a : Nat) (m_puts_a : Nat) (m_codes_a : Nat) (m_weights_a : Nat) (m_sets_a : Nat) (m_picks_a : Nat) (m_classes_a : Nat) (m_steps_a : Nat) (m_told_a : Nat) (m_rules : Int32) (m_changes : Int32) (m_mostTries : Int32) (m_tried : Int32) (m_settled : Int32) (m_found : Int32) (m_isCovered : Int32) (m_covered : Int32) (m_toldMany : Int32) (m_there : Nat → Int32) (m_now : Nat → Int32) (m_kinds : Nat → Int32) (m_targets : Nat → Int32) (m_predicates : Nat → Int32) (m_numbers : Nat → Int32) (m_puts : Nat → Int32) (m_codes : Nat → Int32) (m_weights : Nat → Int32) (m_sets : Nat → Int32) (m_picks : Nat → Int32) (m_classes : Nat → Int32) (m_steps : Nat → Int32) (m_told : Nat → Int32) (v1 : Int32) (v2 : Int32) (m_changes_r : Int32) (m_puts_r : Nat → Int32) (m_codes_r : Nat → Int32) (m_weights_r : Nat → Int32) (hm : mK5_offer m_changes m_puts m_codes m_weights v1 v2 = some (m_changes_r, m_puts_r, m_codes_r, m_weights_r)) : Met l yK5_offer wsK5_offer rmK5_offer (va_Pc [.ref m_a, .int v1, .int v2] (Pr D (tyL cI cZ cB cC) sz (wX m_a m_there_a m_now_a m_kinds_a m_targets_a m_predicates_a m_numbers_a m_puts_a m_codes_a m_weights_a m_sets_a m_picks_a m_classes_a m_steps_a m_told_a cI cZ cB cC m_rules m_changes m_mostTries m_tried m_settled m_found m_isCovered m_covered m_toldMany m_there m_now m_kinds m_targets m_predicates m_numbers m_puts m_codes m_weights m_sets m_picks m_classes m_steps m_told))) (QV D (va_A (wX m_a m_there_a m_now_a m_kinds_a m_targets_a m_predicates_a m_numbers_a m_puts_a m_codes_a m_weights_a m_sets_a m_picks_a m_classes_a m_steps_a m_told_a cI cZ cB cC m_rules m_changes m_mostTries m_tried m_settled m_found m_isCovered m_covered m_toldMany m_there m_now m_kinds m_targets m_predicates m_numbers m_puts m_codes m_weights m_sets m_picks m_classes m_steps m_told) sz) (wX m_a m_there_a m_now_a m_kinds_a m_targets_a m_predicates_a m_numbers_a m_puts_a m_codes_a m_weights_a m_sets_a m_picks_a m_classes_a m_steps_a m_told_a cI cZ cB cC m_rules m_changes_r m_mostTries m_tried m_settled m_found m_isCovered m_covered m_toldMany m_there m_now m_kinds m_targets m_predicates m_numbers m_puts_r m_codes_r m_weights_r m_sets m_picks m_classes m_steps m_told)) 0 0 (va_A (wX m_a m_there_a m_now_a m_kinds_a m_targets_a m_predicates_a m_numbers_a m_puts_a m_codes_a m_weights_a m_sets_a m_picks_a m_classes_a m_steps_a m_told_a cI cZ cB cC m_rules m_changes m_mostTries m_tried m_settled m_found m_isCovered m_covered m_toldMany m_there m_now m_kinds m_targets m_predicates m_numbers m_puts m_codes m_weights m_sets m_picks m_classes m_steps m_told) sz) := by
  refine Met.ofW (cc := cK5_offer) (maxL := 3) (ret := none) (by decide) rfl ?_
  intro p e s m args below meth c s₁ B hml hv
  obtain ⟨rfl, hsz, hP, hK, hD0, hN⟩ := hv
  have hx := B.exec
  have hb := B.bytes
  have hr := B.returns
  have hts := htsA (atoms_spec (ws := wsK5_offer) B.pre)
  have hown : s.vm.findClass RK5 = some m.cls := findClass_of_methodNamed B.named
  have hlocks := B.notSynchronized
  subst hsz
  have hD := hD0.self (sz := s.heap.size)
  generalize hAe : va_A (wX m_a m_there_a m_now_a m_kinds_a m_targets_a m_predicates_a m_numbers_a m_puts_a m_codes_a m_weights_a m_sets_a m_picks_a m_classes_a m_steps_a m_told_a cI cZ cB cC m_rules m_changes m_mostTries m_tried m_settled m_found m_isCovered m_covered m_toldMany m_there m_now m_kinds m_targets m_predicates m_numbers m_puts m_codes m_weights m_sets m_picks m_classes m_steps m_told) s.heap.size = A at hD ⊢
  have hA : ∀ q : Nat, s.heap.size ≤ q → A q := fun q h => by rw [← hAe]; exact Or.inr h
  refine kstart (A := A) hP (fun H hP hS => ?_)
  have hl := lv_entry ([.ref m_a, .int v1, .int v2]) (n := 3) (Nat.le_of_ble_eq_true rfl)
  rw [lg_entry_eq]
  generalize (lg_sl ([.ref m_a, .int v1, .int v2]) ++ List.replicate (3 - (lg_sl ([.ref m_a, .int v1, .int v2])).length) Slot.unset).toArray = ls at hl ⊢
  have hl : lv_has ls 3 [(0, .ref m_a), (1, .int v1), (2, .int v2)] := hl
  unfold mK5_offer at hm
  refine lv_aload_n hx hb dK5_offer_0 rfl (lv_at hl 0 rfl) ?_
  refine va_get (D := D) (ci := 5) (v := .int m_changes) (C := RK5) (T := TK5) (N := 23) hx hb hts inK5 hown hK hP 0 rfl rfl 7 (by decide) (hts _ wdt3_193) (fun _ h9 => h9) rfl dK5_offer_1 ?_
  refine lv_bipush (v := 12) hx hb dK5_offer_4 (by decide) ?_
  refine lv_icmp_ge (tgt := 25) hx hb dK5_offer_6 (by decide) (fun hc => ?_) (fun hc => ?_)
  · replace hm := ift hm hc
    replace hm := Option.some.inj hm
    simp only [Prod.mk.injEq] at hm
    obtain ⟨rfl, rfl, rfl, rfl⟩ := hm
    exact k_retv hx hb hr hlocks hP hD hS dK5_offer_25
  · replace hm := iff_ hm hc
    refine lv_aload_n hx hb dK5_offer_9 rfl (lv_at hl 0 rfl) ?_
    refine lv_iload_n hx hb dK5_offer_10 rfl (lv_at hl 1 rfl) ?_
    refine lv_iload_n hx hb dK5_offer_11 rfl (lv_at hl 2 rfl) ?_
    obtain ⟨x1, ec2, hm⟩ := bd1_s hm
    have hPc := hP.sub (ws' := (wX m_a m_there_a m_now_a m_kinds_a m_targets_a m_predicates_a m_numbers_a m_puts_a m_codes_a m_weights_a m_sets_a m_picks_a m_classes_a m_steps_a m_told_a cI cZ cB cC m_rules m_changes m_mostTries m_tried m_settled m_found m_isCovered m_covered m_toldMany m_there m_now m_kinds m_targets m_predicates m_numbers m_puts m_codes m_weights m_sets m_picks m_classes m_steps m_told)) [0, 1, 2, 3, 4, 5, 6, 7, 8, 9, 10, 11, 12, 13, 14] rfl
    have hDc := hD.sub (ws' := (wX m_a m_there_a m_now_a m_kinds_a m_targets_a m_predicates_a m_numbers_a m_puts_a m_codes_a m_weights_a m_sets_a m_picks_a m_classes_a m_steps_a m_told_a cI cZ cB cC m_rules m_changes m_mostTries m_tried m_settled m_found m_isCovered m_covered m_toldMany m_there m_now m_kinds m_targets m_predicates m_numbers m_puts m_codes m_weights m_sets m_picks m_classes m_steps m_told)) [0, 1, 2, 3, 4, 5, 6, 7, 8, 9, 10, 11, 12, 13, 14] (by decide) rfl
    refine k_calli (wr := []) (w1 := (wX m_a m_there_a m_now_a m_kinds_a m_targets_a m_predicates_a m_numbers_a m_puts_a m_codes_a m_weights_a m_sets_a m_picks_a m_classes_a m_steps_a m_told_a cI cZ cB cC m_rules m_changes m_mostTries m_tried m_settled m_found m_isCovered m_covered m_toldMany m_there m_now m_kinds m_targets m_predicates m_numbers m_puts m_codes m_weights m_sets m_picks m_classes m_steps m_told)) (ws' := (wX m_a m_there_a m_now_a m_kinds_a m_targets_a m_predicates_a m_numbers_a m_puts_a m_codes_a m_weights_a m_sets_a m_picks_a m_classes_a m_steps_a m_told_a cI cZ cB cC m_rules m_changes m_mostTries m_tried m_settled m_found m_isCovered m_covered m_toldMany m_there m_now m_kinds m_targets m_predicates m_numbers m_puts m_codes m_weights m_sets m_picks m_classes m_steps m_told)) (va_runV (As := [.int v1, .int v2]) (rest := []) ⟨hx, hb, hml, hown, hts⟩ (kK5_isThere l D cI cZ cB cC H.size m_a m_there_a m_now_a m_kinds_a m_targets_a m_predicates_a m_numbers_a m_puts_a m_codes_a m_weights_a m_sets_a m_picks_a m_classes_a m_steps_a m_told_a m_rules m_changes m_mostTries m_tried m_settled m_found m_isCovered m_covered m_toldMany m_there m_now m_kinds m_targets m_predicates m_numbers m_puts m_codes m_weights m_sets m_picks m_classes m_steps m_told v1 v2 x1 ec2) (cwV 2 hts (gdV wdt4_81 wdt4_83 wds2_2 wdt1_10 gkK5_isThere) rfl rfl rfl (by decide +kernel) ⟨Nat.le_of_ble_eq_true rfl, Nat.le_of_ble_eq_true rfl⟩) ⟨Pr_blind, va_recv hK hPc (ci := 5) (q0 := 0) rfl rfl, fun U hU hW => ⟨rfl, Pr_at hK hN hPc hDc hU hW⟩⟩ rfl rfl hl.1 rfl (lv_room (Nat.le_of_ble_eq_true rfl)) dK5_offer_12 ⟨Nat.le_of_ble_eq_true rfl, Nat.le_of_ble_eq_true rfl⟩) hP hD hS hA [0, 1, 2, 3, 4, 5, 6, 7, 8, 9, 10, 11, 12, 13, 14] [] [0, 1, 2, 3, 4, 5, 6, 7, 8, 9, 10, 11, 12, 13, 14] rfl rfl (by decide) (by decide) (by decide) rfl (fun H locs hP hD hS => ?_)
    refine lv_if_ne (tgt := 25) hx hb dK5_offer_15 (by decide) (fun hc => ?_) (fun hc => ?_)
    · replace hm := iff_ hm hc
      replace hm := Option.some.inj hm
      simp only [Prod.mk.injEq] at hm
      obtain ⟨rfl, rfl, rfl, rfl⟩ := hm
      exact k_retv hx hb hr hlocks hP hD hS dK5_offer_25
    · replace hm := ift hm hc
      refine lv_aload_n hx hb dK5_offer_18 rfl (lv_at hl 0 rfl) ?_
      refine lv_iload_n hx hb dK5_offer_19 rfl (lv_at hl 1 rfl) ?_
      refine lv_iload_n hx hb dK5_offer_20 rfl (lv_at hl 2 rfl) ?_
      refine lv_iconst (v := 1) hx hb dK5_offer_21 (by decide) ?_
      obtain ⟨x3, x4, x5, x6, ec7, hm⟩ := bd4_s hm
      have hPc := hP.sub (ws' := (wX m_a m_there_a m_now_a m_kinds_a m_targets_a m_predicates_a m_numbers_a m_puts_a m_codes_a m_weights_a m_sets_a m_picks_a m_classes_a m_steps_a m_told_a cI cZ cB cC m_rules m_changes m_mostTries m_tried m_settled m_found m_isCovered m_covered m_toldMany m_there m_now m_kinds m_targets m_predicates m_numbers m_puts m_codes m_weights m_sets m_picks m_classes m_steps m_told)) [0, 1, 2, 3, 4, 5, 6, 7, 8, 9, 10, 11, 12, 13, 14] rfl
      have hDc := hD.sub (ws' := (wX m_a m_there_a m_now_a m_kinds_a m_targets_a m_predicates_a m_numbers_a m_puts_a m_codes_a m_weights_a m_sets_a m_picks_a m_classes_a m_steps_a m_told_a cI cZ cB cC m_rules m_changes m_mostTries m_tried m_settled m_found m_isCovered m_covered m_toldMany m_there m_now m_kinds m_targets m_predicates m_numbers m_puts m_codes m_weights m_sets m_picks m_classes m_steps m_told)) [0, 1, 2, 3, 4, 5, 6, 7, 8, 9, 10, 11, 12, 13, 14] (by decide) rfl
      refine k_callv (wr := []) (w1 := (wX m_a m_there_a m_now_a m_kinds_a m_targets_a m_predicates_a m_numbers_a m_puts_a m_codes_a m_weights_a m_sets_a m_picks_a m_classes_a m_steps_a m_told_a cI cZ cB cC m_rules x3 m_mostTries m_tried m_settled m_found m_isCovered m_covered m_toldMany m_there m_now m_kinds m_targets m_predicates m_numbers x4 x5 x6 m_sets m_picks m_classes m_steps m_told)) (ws' := (wX m_a m_there_a m_now_a m_kinds_a m_targets_a m_predicates_a m_numbers_a m_puts_a m_codes_a m_weights_a m_sets_a m_picks_a m_classes_a m_steps_a m_told_a cI cZ cB cC m_rules x3 m_mostTries m_tried m_settled m_found m_isCovered m_covered m_toldMany m_there m_now m_kinds m_targets m_predicates m_numbers x4 x5 x6 m_sets m_picks m_classes m_steps m_told)) (va_runV (As := [.int v1, .int v2, .int 1]) (rest := []) ⟨hx, hb, hml, hown, hts⟩ (kK5_enter l D cI cZ cB cC H.size m_a m_there_a m_now_a m_kinds_a m_targets_a m_predicates_a m_numbers_a m_puts_a m_codes_a m_weights_a m_sets_a m_picks_a m_classes_a m_steps_a m_told_a m_rules m_changes m_mostTries m_tried m_settled m_found m_isCovered m_covered m_toldMany m_there m_now m_kinds m_targets m_predicates m_numbers m_puts m_codes m_weights m_sets m_picks m_classes m_steps m_told v1 v2 1 x3 x4 x5 x6 ec7) (cwV 3 hts (gdV wdt4_85 wdt4_87 wds2_3 wdt1_10 gkK5_enter) rfl rfl rfl (by decide +kernel) ⟨Nat.le_of_ble_eq_true rfl, Nat.le_of_ble_eq_true rfl⟩) ⟨Pr_blind, va_recv hK hPc (ci := 5) (q0 := 0) rfl rfl, fun U hU hW => ⟨rfl, Pr_at hK hN hPc hDc hU hW⟩⟩ rfl rfl hl.1 rfl (lv_room (Nat.le_of_ble_eq_true rfl)) dK5_offer_22 ⟨Nat.le_of_ble_eq_true rfl, Nat.le_of_ble_eq_true rfl⟩) hP hD hS hA [0, 1, 2, 3, 4, 5, 6, 7, 8, 9, 10, 11, 12, 13, 14] [] [0, 1, 2, 3, 4, 5, 6, 7, 8, 9, 10, 11, 12, 13, 14] rfl rfl (by decide) (by decide) (by decide) rfl (fun H locs hP hD hS => ?_)
      replace hm := Option.some.inj hm
      simp only [Prod.mk.injEq] at hm
      obtain ⟨rfl, rfl, rfl, rfl⟩ := hm
      exact k_retv hx hb hr hlocks hP hD hS dK5_offer_25
