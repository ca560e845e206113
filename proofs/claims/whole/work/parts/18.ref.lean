def mK5_results (m_rules : Int32) (m_changes : Int32) (m_there : Nat → Int32) (m_now : Nat → Int32) (m_kinds : Nat → Int32) (m_targets : Nat → Int32) (m_predicates : Nat → Int32) (m_numbers : Nat → Int32) (m_puts : Nat → Int32) (m_codes : Nat → Int32) (m_classes : Nat → Int32) : Option (Int32 × (Nat → Int32) × (Nat → Int32)) :=
  bd1 (mK5_begin m_changes m_there m_now m_puts m_codes 0) fun x1 => bd2 (mK5_resultsNow m_rules x1 m_kinds m_targets m_predicates m_numbers m_classes) fun x3 x4 => some (x3, x1, x4)
abbrev rmK5_results : Room := { frames := 5, cells := 0, slots := 0, locals := 120 }
set_option maxHeartbeats 4000000 in
set_option maxRecDepth 100000 in
theorem kK5_results (l : Launch) (D : va_G) (cI cZ cB cC : ClassId) (sz : Nat) (m_a : Nat) (m_there_a : Nat) (m_now_a : Nat) (m_kinds_a : Nat) (m_targets_a : Nat) (m_predicates_a : Nat) (m_numbers_a : Nat) (m_puts_a : Nat) (m_codes_a : Nat) (m_weights_a : Nat) (m_sets_a : Nat) (m_picks_a : Nat) (m_classes_a : Nat) (m_steps_a : Nat) (m_told_a : Nat) (m_rules : Int32) (m_changes : Int32) (m_mostTries : Int32) (m_tried : Int32) (m_settled : Int32) (m_found : Int32) (m_isCovered : Int32) (m_covered : Int32) (m_toldMany : Int32) (m_there : Nat → Int32) (m_now : Nat → Int32) (m_kinds : Nat → Int32) (m_targets : Nat → Int32) (m_predicates : Nat → Int32) (m_numbers : Nat → Int32) (m_puts : Nat → Int32) (m_codes : Nat → Int32) (m_weights : Nat → Int32) (m_sets : Nat → Int32) (m_picks : Nat → Int32) (m_classes : Nat → Int32) (m_steps : Nat → Int32) (m_told : Nat → Int32) (r0 : Int32) (m_now_r : Nat → Int32) (m_classes_r : Nat → Int32) (hm : mK5_results m_rules m_changes m_there m_now m_kinds m_targets m_predicates m_numbers m_puts m_codes m_classes = some (r0, m_now_r, m_classes_r)) : Met l yK5_results wsK5_results rmK5_results (va_Pc [.ref m_a] (Pr D (tyL cI cZ cB cC) sz (wX m_a m_there_a m_now_a m_kinds_a m_targets_a m_predicates_a m_numbers_a m_puts_a m_codes_a m_weights_a m_sets_a m_picks_a m_classes_a m_steps_a m_told_a cI cZ cB cC m_rules m_changes m_mostTries m_tried m_settled m_found m_isCovered m_covered m_toldMany m_there m_now m_kinds m_targets m_predicates m_numbers m_puts m_codes m_weights m_sets m_picks m_classes m_steps m_told))) (QI D (va_A (wX m_a m_there_a m_now_a m_kinds_a m_targets_a m_predicates_a m_numbers_a m_puts_a m_codes_a m_weights_a m_sets_a m_picks_a m_classes_a m_steps_a m_told_a cI cZ cB cC m_rules m_changes m_mostTries m_tried m_settled m_found m_isCovered m_covered m_toldMany m_there m_now m_kinds m_targets m_predicates m_numbers m_puts m_codes m_weights m_sets m_picks m_classes m_steps m_told) sz) r0 (wX m_a m_there_a m_now_a m_kinds_a m_targets_a m_predicates_a m_numbers_a m_puts_a m_codes_a m_weights_a m_sets_a m_picks_a m_classes_a m_steps_a m_told_a cI cZ cB cC m_rules m_changes m_mostTries m_tried m_settled m_found m_isCovered m_covered m_toldMany m_there m_now_r m_kinds m_targets m_predicates m_numbers m_puts m_codes m_weights m_sets m_picks m_classes_r m_steps m_told)) 0 0 (va_A (wX m_a m_there_a m_now_a m_kinds_a m_targets_a m_predicates_a m_numbers_a m_puts_a m_codes_a m_weights_a m_sets_a m_picks_a m_classes_a m_steps_a m_told_a cI cZ cB cC m_rules m_changes m_mostTries m_tried m_settled m_found m_isCovered m_covered m_toldMany m_there m_now m_kinds m_targets m_predicates m_numbers m_puts m_codes m_weights m_sets m_picks m_classes m_steps m_told) sz) := by
  refine Met.ofW (cc := cK5_results) (maxL := 1) (ret := (some .int)) (by decide) rfl ?_
  intro p e s m args below meth c s₁ B hml hv
  obtain ⟨rfl, hsz, hP, hK, hD0, hN⟩ := hv
  have hx := B.exec
  have hb := B.bytes
  have hr := B.returns
  have hts := htsA (atoms_spec (ws := wsK5_results) B.pre)
  have hown : s.vm.findClass RK5 = some m.cls := findClass_of_methodNamed B.named
  have hlocks := B.notSynchronized
  subst hsz
  have hD := hD0.self (sz := s.heap.size)
  generalize hAe : va_A (wX m_a m_there_a m_now_a m_kinds_a m_targets_a m_predicates_a m_numbers_a m_puts_a m_codes_a m_weights_a m_sets_a m_picks_a m_classes_a m_steps_a m_told_a cI cZ cB cC m_rules m_changes m_mostTries m_tried m_settled m_found m_isCovered m_covered m_toldMany m_there m_now m_kinds m_targets m_predicates m_numbers m_puts m_codes m_weights m_sets m_picks m_classes m_steps m_told) s.heap.size = A at hD ⊢
  have hA : ∀ q : Nat, s.heap.size ≤ q → A q := fun q h => by rw [← hAe]; exact Or.inr h
  refine kstart (A := A) hP (fun H hP hS => ?_)
  have hl := lv_entry ([.ref m_a]) (n := 1) (Nat.le_of_ble_eq_true rfl)
  rw [lg_entry_eq]
  generalize (lg_sl ([.ref m_a]) ++ List.replicate (1 - (lg_sl ([.ref m_a])).length) Slot.unset).toArray = ls at hl ⊢
  have hl : lv_has ls 1 [(0, .ref m_a)] := hl
  unfold mK5_results at hm
  refine lv_aload_n hx hb dK5_results_0 rfl (lv_at hl 0 rfl) ?_
  refine lv_iconst (v := 0) hx hb dK5_results_1 (by decide) ?_
  obtain ⟨x1, ec2, hm⟩ := bd1_s hm
  have hPc := hP.sub (ws' := (wX m_a m_there_a m_now_a m_kinds_a m_targets_a m_predicates_a m_numbers_a m_puts_a m_codes_a m_weights_a m_sets_a m_picks_a m_classes_a m_steps_a m_told_a cI cZ cB cC m_rules m_changes m_mostTries m_tried m_settled m_found m_isCovered m_covered m_toldMany m_there m_now m_kinds m_targets m_predicates m_numbers m_puts m_codes m_weights m_sets m_picks m_classes m_steps m_told)) [0, 1, 2, 3, 4, 5, 6, 7, 8, 9, 10, 11, 12, 13, 14] rfl
  have hDc := hD.sub (ws' := (wX m_a m_there_a m_now_a m_kinds_a m_targets_a m_predicates_a m_numbers_a m_puts_a m_codes_a m_weights_a m_sets_a m_picks_a m_classes_a m_steps_a m_told_a cI cZ cB cC m_rules m_changes m_mostTries m_tried m_settled m_found m_isCovered m_covered m_toldMany m_there m_now m_kinds m_targets m_predicates m_numbers m_puts m_codes m_weights m_sets m_picks m_classes m_steps m_told)) [0, 1, 2, 3, 4, 5, 6, 7, 8, 9, 10, 11, 12, 13, 14] (by decide) rfl
  refine k_callv (wr := []) (w1 := (wX m_a m_there_a m_now_a m_kinds_a m_targets_a m_predicates_a m_numbers_a m_puts_a m_codes_a m_weights_a m_sets_a m_picks_a m_classes_a m_steps_a m_told_a cI cZ cB cC m_rules m_changes m_mostTries m_tried m_settled m_found m_isCovered m_covered m_toldMany m_there x1 m_kinds m_targets m_predicates m_numbers m_puts m_codes m_weights m_sets m_picks m_classes m_steps m_told)) (ws' := (wX m_a m_there_a m_now_a m_kinds_a m_targets_a m_predicates_a m_numbers_a m_puts_a m_codes_a m_weights_a m_sets_a m_picks_a m_classes_a m_steps_a m_told_a cI cZ cB cC m_rules m_changes m_mostTries m_tried m_settled m_found m_isCovered m_covered m_toldMany m_there x1 m_kinds m_targets m_predicates m_numbers m_puts m_codes m_weights m_sets m_picks m_classes m_steps m_told)) (va_runV (As := [.int 0]) (rest := []) ⟨hx, hb, hml, hown, hts⟩ (kK5_begin l D cI cZ cB cC H.size m_a m_there_a m_now_a m_kinds_a m_targets_a m_predicates_a m_numbers_a m_puts_a m_codes_a m_weights_a m_sets_a m_picks_a m_classes_a m_steps_a m_told_a m_rules m_changes m_mostTries m_tried m_settled m_found m_isCovered m_covered m_toldMany m_there m_now m_kinds m_targets m_predicates m_numbers m_puts m_codes m_weights m_sets m_picks m_classes m_steps m_told 0 x1 ec2) (cwV 1 hts (gdV wdt4_41 wdt4_43 wds1_12 wdt1_10 gkK5_begin) rfl rfl rfl (by decide +kernel) ⟨Nat.le_of_ble_eq_true rfl, Nat.le_of_ble_eq_true rfl⟩) ⟨Pr_blind, va_recv hK hPc (ci := 5) (q0 := 0) rfl rfl, fun U hU hW => ⟨rfl, Pr_at hK hN hPc hDc hU hW⟩⟩ rfl rfl hl.1 rfl (lv_room (Nat.le_of_ble_eq_true rfl)) dK5_results_2 ⟨Nat.le_of_ble_eq_true rfl, Nat.le_of_ble_eq_true rfl⟩) hP hD hS hA [0, 1, 2, 3, 4, 5, 6, 7, 8, 9, 10, 11, 12, 13, 14] [] [0, 1, 2, 3, 4, 5, 6, 7, 8, 9, 10, 11, 12, 13, 14] rfl rfl (by decide) (by decide) (by decide) rfl (fun H locs hP hD hS => ?_)
  refine lv_aload_n hx hb dK5_results_5 rfl (lv_at hl 0 rfl) ?_
  obtain ⟨x3, x4, ec5, hm⟩ := bd2_s hm
  have hPc := hP.sub (ws' := (wX m_a m_there_a m_now_a m_kinds_a m_targets_a m_predicates_a m_numbers_a m_puts_a m_codes_a m_weights_a m_sets_a m_picks_a m_classes_a m_steps_a m_told_a cI cZ cB cC m_rules m_changes m_mostTries m_tried m_settled m_found m_isCovered m_covered m_toldMany m_there x1 m_kinds m_targets m_predicates m_numbers m_puts m_codes m_weights m_sets m_picks m_classes m_steps m_told)) [0, 1, 2, 3, 4, 5, 6, 7, 8, 9, 10, 11, 12, 13, 14] rfl
  have hDc := hD.sub (ws' := (wX m_a m_there_a m_now_a m_kinds_a m_targets_a m_predicates_a m_numbers_a m_puts_a m_codes_a m_weights_a m_sets_a m_picks_a m_classes_a m_steps_a m_told_a cI cZ cB cC m_rules m_changes m_mostTries m_tried m_settled m_found m_isCovered m_covered m_toldMany m_there x1 m_kinds m_targets m_predicates m_numbers m_puts m_codes m_weights m_sets m_picks m_classes m_steps m_told)) [0, 1, 2, 3, 4, 5, 6, 7, 8, 9, 10, 11, 12, 13, 14] (by decide) rfl
  refine k_calli (wr := []) (w1 := (wX m_a m_there_a m_now_a m_kinds_a m_targets_a m_predicates_a m_numbers_a m_puts_a m_codes_a m_weights_a m_sets_a m_picks_a m_classes_a m_steps_a m_told_a cI cZ cB cC m_rules m_changes m_mostTries m_tried m_settled m_found m_isCovered m_covered m_toldMany m_there x1 m_kinds m_targets m_predicates m_numbers m_puts m_codes m_weights m_sets m_picks x4 m_steps m_told)) (ws' := (wX m_a m_there_a m_now_a m_kinds_a m_targets_a m_predicates_a m_numbers_a m_puts_a m_codes_a m_weights_a m_sets_a m_picks_a m_classes_a m_steps_a m_told_a cI cZ cB cC m_rules m_changes m_mostTries m_tried m_settled m_found m_isCovered m_covered m_toldMany m_there x1 m_kinds m_targets m_predicates m_numbers m_puts m_codes m_weights m_sets m_picks x4 m_steps m_told)) (va_runV (As := []) (rest := []) ⟨hx, hb, hml, hown, hts⟩ (kK5_resultsNow l D cI cZ cB cC H.size m_a m_there_a m_now_a m_kinds_a m_targets_a m_predicates_a m_numbers_a m_puts_a m_codes_a m_weights_a m_sets_a m_picks_a m_classes_a m_steps_a m_told_a m_rules m_changes m_mostTries m_tried m_settled m_found m_isCovered m_covered m_toldMany m_there x1 m_kinds m_targets m_predicates m_numbers m_puts m_codes m_weights m_sets m_picks m_classes m_steps m_told x3 x4 ec5) (cwV 0 hts (gdV wdt4_45 wdt4_47 wds1_13 wdt1_10 gkK5_resultsNow) rfl rfl rfl (by decide +kernel) ⟨Nat.le_of_ble_eq_true rfl, Nat.le_of_ble_eq_true rfl⟩) ⟨Pr_blind, va_recv hK hPc (ci := 5) (q0 := 0) rfl rfl, fun U hU hW => ⟨rfl, Pr_at hK hN hPc hDc hU hW⟩⟩ rfl rfl hl.1 rfl (lv_room (Nat.le_of_ble_eq_true rfl)) dK5_results_6 ⟨Nat.le_of_ble_eq_true rfl, Nat.le_of_ble_eq_true rfl⟩) hP hD hS hA [0, 1, 2, 3, 4, 5, 6, 7, 8, 9, 10, 11, 12, 13, 14] [] [0, 1, 2, 3, 4, 5, 6, 7, 8, 9, 10, 11, 12, 13, 14] rfl rfl (by decide) (by decide) (by decide) rfl (fun H locs hP hD hS => ?_)
  replace hm := Option.some.inj hm
  simp only [Prod.mk.injEq] at hm
  obtain ⟨rfl, rfl, rfl⟩ := hm
  exact k_reti hx hb hr hlocks hP hD hS dK5_results_9
def mK5_result_A9 (x1 : Nat → Int32) (m_classesx9 : Nat → Int32) : Option (Int32 × (Nat → Int32) × (Nat → Int32)) :=
  some ((-2), x1, m_classesx9)
def mK5_result_B9 (m_rules : Int32) (m_kinds : Nat → Int32) (m_targets : Nat → Int32) (m_predicates : Nat → Int32) (m_numbers : Nat → Int32) (v1 : Int32) (x1 : Nat → Int32) (kx9 : (Nat → Int32) → (Option (Int32 × (Nat → Int32) × (Nat → Int32)))) (rc9 : Int32 → Int32 → (Nat → Int32) → (Option (Int32 × (Nat → Int32) × (Nat → Int32)))) (i2l9 : Int32) (i3l9 : Int32) (m_classesl9 : Nat → Int32) : Option (Int32 × (Nat → Int32) × (Nat → Int32)) :=
  if (12 * m_rules) ≤ i3l9 then
  (kx9 m_classesl9)
  else
  (if v1 < 0 then
    (kx9 m_classesl9)
    else
    (bd2 (mK5_isResult x1 m_kinds m_targets m_predicates m_numbers m_classesl9 (i3l9 / 12) (i3l9 - i3l9 / 12 * 12)) fun x3 x4 => if x3 = 0 then
      (if x3 = 0 then
        (bd1 (some (i2l9 - 0)) fun x6 => bd1 (some (i3l9 + 1)) fun x7 => rc9 x6 x7 x4)
        else
        (bd1 (some (i2l9 - 1)) fun x8 => bd1 (some (i3l9 + 1)) fun x9 => rc9 x8 x9 x4))
      else
      (if i2l9 = 0 then
        (some (i3l9, x1, x4))
        else
        (if x3 = 0 then
          (bd1 (some (i2l9 - 0)) fun x10 => bd1 (some (i3l9 + 1)) fun x11 => rc9 x10 x11 x4)
          else
          (bd1 (some (i2l9 - 1)) fun x12 => bd1 (some (i3l9 + 1)) fun x13 => rc9 x12 x13 x4)))))
def mK5_result_L9 (m_rules : Int32) (m_kinds : Nat → Int32) (m_targets : Nat → Int32) (m_predicates : Nat → Int32) (m_numbers : Nat → Int32) (v1 : Int32) (x1 : Nat → Int32) (kx9 : (Nat → Int32) → (Option (Int32 × (Nat → Int32) × (Nat → Int32)))) : Nat → Int32 → Int32 → (Nat → Int32) → (Option (Int32 × (Nat → Int32) × (Nat → Int32)))
  | 0, _, _, _ => none
  | n + 1, i2l9, i3l9, m_classesl9 => mK5_result_B9 m_rules m_kinds m_targets m_predicates m_numbers v1 x1 kx9 (mK5_result_L9 m_rules m_kinds m_targets m_predicates m_numbers v1 x1 kx9 n) i2l9 i3l9 m_classesl9
def mK5_result (m_rules : Int32) (m_changes : Int32) (m_there : Nat → Int32) (m_now : Nat → Int32) (m_kinds : Nat → Int32) (m_targets : Nat → Int32) (m_predicates : Nat → Int32) (m_numbers : Nat → Int32) (m_puts : Nat → Int32) (m_codes : Nat → Int32) (m_classes : Nat → Int32) (v1 : Int32) : Option (Int32 × (Nat → Int32) × (Nat → Int32)) :=
  bd1 (mK5_begin m_changes m_there m_now m_puts m_codes 0) fun x1 => mK5_result_L9 m_rules m_kinds m_targets m_predicates m_numbers v1 x1 (mK5_result_A9 x1) 5000 v1 0 m_classes
abbrev rmK5_result : Room := { frames := 4, cells := 0, slots := 0, locals := 97 }
set_option maxHeartbeats 4000000 in
set_option maxRecDepth 100000 in
theorem kK5_result (l : Launch) (D : va_G) (cI cZ cB cC : ClassId) (sz : Nat) (m_a : Nat) (m_there_a : Nat) (m_now_a : Nat) (m_kinds_a : Nat) (m_targets_a : Nat) (m_predicates_a : Nat) (m_numbers_a : Nat) (m_puts_a : Nat) (m_codes_a : Nat) (m_weights_a : Nat) (m_sets_a : Nat) (m_picks_a : Nat) (m_classes_a : Nat) (m_steps_a : Nat) (m_told_a : Nat) (m_rules : Int32) (m_changes : Int32) (m_mostTries : Int32) (m_tried : Int32) (m_settled : Int32) (m_found : Int32) (m_isCovered : Int32) (m_covered : Int32) (m_toldMany : Int32) (m_there : Nat → Int32) (m_now : Nat → Int32) (m_kinds : Nat → Int32) (m_targets : Nat → Int32) (m_predicates : Nat → Int32) (m_numbers : Nat → Int32) (m_puts : Nat → Int32) (m_codes : Nat → Int32) (m_weights : Nat → Int32) (m_sets : Nat → Int32) (m_picks : Nat → Int32) (m_classes : Nat → Int32) (m_steps : Nat → Int32) (m_told : Nat → Int32) (v1 : Int32) (r0 : Int32) (m_now_r : Nat → Int32) (m_classes_r : Nat → Int32) (hm : mK5_result m_rules m_changes m_there m_now m_kinds m_targets m_predicates m_numbers m_puts m_codes m_classes v1 = some (r0, m_now_r, m_classes_r)) : Met l yK5_result wsK5_result rmK5_result (va_Pc [.ref m_a, .int v1] (Pr D (tyL cI cZ cB cC) sz (wX m_a m_there_a m_now_a m_kinds_a m_targets_a m_predicates_a m_numbers_a m_puts_a m_codes_a m_weights_a m_sets_a m_picks_a m_classes_a m_steps_a m_told_a cI cZ cB cC m_rules m_changes m_mostTries m_tried m_settled m_found m_isCovered m_covered m_toldMany m_there m_now m_kinds m_targets m_predicates m_numbers m_puts m_codes m_weights m_sets m_picks m_classes m_steps m_told))) (QI D (va_A (wX m_a m_there_a m_now_a m_kinds_a m_targets_a m_predicates_a m_numbers_a m_puts_a m_codes_a m_weights_a m_sets_a m_picks_a m_classes_a m_steps_a m_told_a cI cZ cB cC m_rules m_changes m_mostTries m_tried m_settled m_found m_isCovered m_covered m_toldMany m_there m_now m_kinds m_targets m_predicates m_numbers m_puts m_codes m_weights m_sets m_picks m_classes m_steps m_told) sz) r0 (wX m_a m_there_a m_now_a m_kinds_a m_targets_a m_predicates_a m_numbers_a m_puts_a m_codes_a m_weights_a m_sets_a m_picks_a m_classes_a m_steps_a m_told_a cI cZ cB cC m_rules m_changes m_mostTries m_tried m_settled m_found m_isCovered m_covered m_toldMany m_there m_now_r m_kinds m_targets m_predicates m_numbers m_puts m_codes m_weights m_sets m_picks m_classes_r m_steps m_told)) 0 0 (va_A (wX m_a m_there_a m_now_a m_kinds_a m_targets_a m_predicates_a m_numbers_a m_puts_a m_codes_a m_weights_a m_sets_a m_picks_a m_classes_a m_steps_a m_told_a cI cZ cB cC m_rules m_changes m_mostTries m_tried m_settled m_found m_isCovered m_covered m_toldMany m_there m_now m_kinds m_targets m_predicates m_numbers m_puts m_codes m_weights m_sets m_picks m_classes m_steps m_told) sz) := by
  refine Met.ofW (cc := cK5_result) (maxL := 5) (ret := (some .int)) (by decide) rfl ?_
  intro p e s m args below meth c s₁ B hml hv
  obtain ⟨rfl, hsz, hP, hK, hD0, hN⟩ := hv
  have hx := B.exec
  have hb := B.bytes
  have hr := B.returns
  have hts := htsA (atoms_spec (ws := wsK5_result) B.pre)
  have hown : s.vm.findClass RK5 = some m.cls := findClass_of_methodNamed B.named
  have hlocks := B.notSynchronized
  subst hsz
  have hD := hD0.self (sz := s.heap.size)
  generalize hAe : va_A (wX m_a m_there_a m_now_a m_kinds_a m_targets_a m_predicates_a m_numbers_a m_puts_a m_codes_a m_weights_a m_sets_a m_picks_a m_classes_a m_steps_a m_told_a cI cZ cB cC m_rules m_changes m_mostTries m_tried m_settled m_found m_isCovered m_covered m_toldMany m_there m_now m_kinds m_targets m_predicates m_numbers m_puts m_codes m_weights m_sets m_picks m_classes m_steps m_told) s.heap.size = A at hD ⊢
  have hA : ∀ q : Nat, s.heap.size ≤ q → A q := fun q h => by rw [← hAe]; exact Or.inr h
  refine kstart (A := A) hP (fun H hP hS => ?_)
  have hl := lv_entry ([.ref m_a, .int v1]) (n := 5) (Nat.le_of_ble_eq_true rfl)
  rw [lg_entry_eq]
  generalize (lg_sl ([.ref m_a, .int v1]) ++ List.replicate (5 - (lg_sl ([.ref m_a, .int v1])).length) Slot.unset).toArray = ls at hl ⊢
  have hl : lv_has ls 5 [(0, .ref m_a), (1, .int v1)] := hl
  unfold mK5_result at hm
  refine lv_aload_n hx hb dK5_result_0 rfl (lv_at hl 0 rfl) ?_
  refine lv_iconst (v := 0) hx hb dK5_result_1 (by decide) ?_
  obtain ⟨x1, ec2, hm⟩ := bd1_s hm
  have hPc := hP.sub (ws' := (wX m_a m_there_a m_now_a m_kinds_a m_targets_a m_predicates_a m_numbers_a m_puts_a m_codes_a m_weights_a m_sets_a m_picks_a m_classes_a m_steps_a m_told_a cI cZ cB cC m_rules m_changes m_mostTries m_tried m_settled m_found m_isCovered m_covered m_toldMany m_there m_now m_kinds m_targets m_predicates m_numbers m_puts m_codes m_weights m_sets m_picks m_classes m_steps m_told)) [0, 1, 2, 3, 4, 5, 6, 7, 8, 9, 10, 11, 12, 13, 14] rfl
  have hDc := hD.sub (ws' := (wX m_a m_there_a m_now_a m_kinds_a m_targets_a m_predicates_a m_numbers_a m_puts_a m_codes_a m_weights_a m_sets_a m_picks_a m_classes_a m_steps_a m_told_a cI cZ cB cC m_rules m_changes m_mostTries m_tried m_settled m_found m_isCovered m_covered m_toldMany m_there m_now m_kinds m_targets m_predicates m_numbers m_puts m_codes m_weights m_sets m_picks m_classes m_steps m_told)) [0, 1, 2, 3, 4, 5, 6, 7, 8, 9, 10, 11, 12, 13, 14] (by decide) rfl
  refine k_callv (wr := []) (w1 := (wX m_a m_there_a m_now_a m_kinds_a m_targets_a m_predicates_a m_numbers_a m_puts_a m_codes_a m_weights_a m_sets_a m_picks_a m_classes_a m_steps_a m_told_a cI cZ cB cC m_rules m_changes m_mostTries m_tried m_settled m_found m_isCovered m_covered m_toldMany m_there x1 m_kinds m_targets m_predicates m_numbers m_puts m_codes m_weights m_sets m_picks m_classes m_steps m_told)) (ws' := (wX m_a m_there_a m_now_a m_kinds_a m_targets_a m_predicates_a m_numbers_a m_puts_a m_codes_a m_weights_a m_sets_a m_picks_a m_classes_a m_steps_a m_told_a cI cZ cB cC m_rules m_changes m_mostTries m_tried m_settled m_found m_isCovered m_covered m_toldMany m_there x1 m_kinds m_targets m_predicates m_numbers m_puts m_codes m_weights m_sets m_picks m_classes m_steps m_told)) (va_runV (As := [.int 0]) (rest := []) ⟨hx, hb, hml, hown, hts⟩ (kK5_begin l D cI cZ cB cC H.size m_a m_there_a m_now_a m_kinds_a m_targets_a m_predicates_a m_numbers_a m_puts_a m_codes_a m_weights_a m_sets_a m_picks_a m_classes_a m_steps_a m_told_a m_rules m_changes m_mostTries m_tried m_settled m_found m_isCovered m_covered m_toldMany m_there m_now m_kinds m_targets m_predicates m_numbers m_puts m_codes m_weights m_sets m_picks m_classes m_steps m_told 0 x1 ec2) (cwV 1 hts (gdV wdt4_41 wdt4_43 wds1_12 wdt1_10 gkK5_begin) rfl rfl rfl (by decide +kernel) ⟨Nat.le_of_ble_eq_true rfl, Nat.le_of_ble_eq_true rfl⟩) ⟨Pr_blind, va_recv hK hPc (ci := 5) (q0 := 0) rfl rfl, fun U hU hW => ⟨rfl, Pr_at hK hN hPc hDc hU hW⟩⟩ rfl rfl hl.1 rfl (lv_room (Nat.le_of_ble_eq_true rfl)) dK5_result_2 ⟨Nat.le_of_ble_eq_true rfl, Nat.le_of_ble_eq_true rfl⟩) hP hD hS hA [0, 1, 2, 3, 4, 5, 6, 7, 8, 9, 10, 11, 12, 13, 14] [] [0, 1, 2, 3, 4, 5, 6, 7, 8, 9, 10, 11, 12, 13, 14] rfl rfl (by decide) (by decide) (by decide) rfl (fun H locs hP hD hS => ?_)
  refine lv_iload_n hx hb dK5_result_5 rfl (lv_at hl 1 rfl) ?_
  refine lv_istore_n (lv' := [(2, .int v1), (0, .ref m_a), (1, .int v1)]) hx hb dK5_result_6 rfl hl (by decide) rfl (fun ls hl => ?_)
  refine lv_iconst (v := 0) hx hb dK5_result_7 (by decide) ?_
  refine lv_istore_n (lv' := [(3, .int 0), (2, .int v1), (0, .ref m_a), (1, .int v1)]) hx hb dK5_result_8 rfl hl (by decide) rfl (fun ls hl => ?_)
  have lx9 : ∀ (m_classesx9 : Nat → Int32) (H : Heap) (locs : List Loc) (ls : Array Slot), mK5_result_A9 x1 m_classesx9 = some (r0, m_now_r, m_classes_r) → va_P D vwCl (wX m_a m_there_a m_now_a m_kinds_a m_targets_a m_predicates_a m_numbers_a m_puts_a m_codes_a m_weights_a m_sets_a m_picks_a m_classes_a m_steps_a m_told_a cI cZ cB cC m_rules m_changes m_mostTries m_tried m_settled m_found m_isCovered m_covered m_toldMany m_there x1 m_kinds m_targets m_predicates m_numbers m_puts m_codes m_weights m_sets m_picks m_classesx9 m_steps m_told) H → va_D A (wX m_a m_there_a m_now_a m_kinds_a m_targets_a m_predicates_a m_numbers_a m_puts_a m_codes_a m_weights_a m_sets_a m_picks_a m_classes_a m_steps_a m_told_a cI cZ cB cC m_rules m_changes m_mostTries m_tried m_settled m_found m_isCovered m_covered m_toldMany m_there x1 m_kinds m_targets m_predicates m_numbers m_puts m_codes m_weights m_sets m_picks m_classesx9 m_steps m_told) → va_S A s.heap H locs → lv_has ls 5 [] → W p l e (headSpec wsK5_result rmK5_result).room s m ([.ref m_a, .int v1] : List Value).toArray below meth c H locs 0 0 (MQ below (QI D A r0 (wX m_a m_there_a m_now_a m_kinds_a m_targets_a m_predicates_a m_numbers_a m_puts_a m_codes_a m_weights_a m_sets_a m_picks_a m_classes_a m_steps_a m_told_a cI cZ cB cC m_rules m_changes m_mostTries m_tried m_settled m_found m_isCovered m_covered m_toldMany m_there m_now_r m_kinds m_targets m_predicates m_numbers m_puts m_codes m_weights m_sets m_picks m_classes_r m_steps m_told)) ([.ref m_a, .int v1] : List Value).toArray s 0 0 A) (F0 m 68 ls []) := by
    intro m_classesx9 H locs ls hm hP hD hS hl
    unfold mK5_result_A9 at hm
    refine lv_bipush (v := (-2)) hx hb dK5_result_68 (by decide) ?_
    replace hm := Option.some.inj hm
    simp only [Prod.mk.injEq] at hm
    obtain ⟨rfl, rfl, rfl⟩ := hm
    exact k_reti hx hb hr hlocks hP hD hS dK5_result_70
  have lp9 : ∀ (n9 : Nat) (i2l9 : Int32) (i3l9 : Int32) (m_classesl9 : Nat → Int32) (H : Heap) (locs : List Loc) (ls : Array Slot), mK5_result_L9 m_rules m_kinds m_targets m_predicates m_numbers v1 x1 (mK5_result_A9 x1) n9 i2l9 i3l9 m_classesl9 = some (r0, m_now_r, m_classes_r) → va_P D vwCl (wX m_a m_there_a m_now_a m_kinds_a m_targets_a m_predicates_a m_numbers_a m_puts_a m_codes_a m_weights_a m_sets_a m_picks_a m_classes_a m_steps_a m_told_a cI cZ cB cC m_rules m_changes m_mostTries m_tried m_settled m_found m_isCovered m_covered m_toldMany m_there x1 m_kinds m_targets m_predicates m_numbers m_puts m_codes m_weights m_sets m_picks m_classesl9 m_steps m_told) H → va_D A (wX m_a m_there_a m_now_a m_kinds_a m_targets_a m_predicates_a m_numbers_a m_puts_a m_codes_a m_weights_a m_sets_a m_picks_a m_classes_a m_steps_a m_told_a cI cZ cB cC m_rules m_changes m_mostTries m_tried m_settled m_found m_isCovered m_covered m_toldMany m_there x1 m_kinds m_targets m_predicates m_numbers m_puts m_codes m_weights m_sets m_picks m_classesl9 m_steps m_told) → va_S A s.heap H locs → lv_has ls 5 [(3, .int i3l9), (2, .int i2l9), (0, .ref m_a), (1, .int v1)] → W p l e (headSpec wsK5_result rmK5_result).room s m ([.ref m_a, .int v1] : List Value).toArray below meth c H locs 0 0 (MQ below (QI D A r0 (wX m_a m_there_a m_now_a m_kinds_a m_targets_a m_predicates_a m_numbers_a m_puts_a m_codes_a m_weights_a m_sets_a m_picks_a m_classes_a m_steps_a m_told_a cI cZ cB cC m_rules m_changes m_mostTries m_tried m_settled m_found m_isCovered m_covered m_toldMany m_there m_now_r m_kinds m_targets m_predicates m_numbers m_puts m_codes m_weights m_sets m_picks m_classes_r m_steps m_told)) ([.ref m_a, .int v1] : List Value).toArray s 0 0 A) (F0 m 9 ls []) := by
    intro n9
    induction n9 with
    | zero => intro i2l9 i3l9 m_classesl9 H locs ls hm; exact nomatch (show none = _ from hm)
    | succ n9 ih9 =>
      intro i2l9 i3l9 m_classesl9 H locs ls hm hP hD hS hl
      replace hm : mK5_result_B9 m_rules m_kinds m_targets m_predicates m_numbers v1 x1 (mK5_result_A9 x1) (mK5_result_L9 m_rules m_kinds m_targets m_predicates m_numbers v1 x1 (mK5_result_A9 x1) n9) i2l9 i3l9 m_classesl9 = some (r0, m_now_r, m_classes_r) := hm
      unfold mK5_result_B9 at hm
      refine lv_iload_n hx hb dK5_result_9 rfl (lv_at hl 0 rfl) ?_
      refine lv_bipush (v := 12) hx hb dK5_result_10 (by decide) ?_
      refine lv_aload_n hx hb dK5_result_12 rfl (lv_at hl 2 rfl) ?_
      refine va_get (D := D) (ci := 5) (v := .int m_rules) (C := RK5) (T := TK5) (N := 23) hx hb hts inK5 hown hK hP 0 rfl rfl 2 (by decide) (hts _ wdt3_188) (fun _ h9 => h9) rfl dK5_result_13 ?_
      refine lv_imul hx hb dK5_result_16 ?_
      refine lv_icmp_ge (tgt := 68) hx hb dK5_result_17 (by decide) (fun hc => ?_) (fun hc => ?_)
      · replace hm := ift hm hc
        exact lx9 m_classesl9 _ _ _ hm hP hD hS (lv_sub hl [] rfl)
      · replace hm := iff_ hm hc
        refine lv_iload_n hx hb dK5_result_20 rfl (lv_at hl 3 rfl) ?_
        refine lv_if_lt (tgt := 68) hx hb dK5_result_21 (by decide) (fun hc => ?_) (fun hc => ?_)
        · replace hm := ift hm hc
          exact lx9 m_classesl9 _ _ _ hm hP hD hS (lv_sub hl [] rfl)
        · replace hm := iff_ hm hc
          refine lv_aload_n hx hb dK5_result_24 rfl (lv_at hl 2 rfl) ?_
          refine lv_iload_n hx hb dK5_result_25 rfl (lv_at hl 0 rfl) ?_
          refine lv_bipush (v := 12) hx hb dK5_result_26 (by decide) ?_
          refine lv_idiv hx hb dK5_result_28 (by decide) ?_
          refine lv_iload_n hx hb dK5_result_29 rfl (lv_at hl 0 rfl) ?_
          refine lv_bipush (v := 12) hx hb dK5_result_30 (by decide) ?_
          refine lv_irem hx hb dK5_result_32 (by decide) ?_
          obtain ⟨x3, x4, ec5, hm⟩ := bd2_s hm
          have hPc := hP.sub (ws' := (wX m_a m_there_a m_now_a m_kinds_a m_targets_a m_predicates_a m_numbers_a m_puts_a m_codes_a m_weights_a m_sets_a m_picks_a m_classes_a m_steps_a m_told_a cI cZ cB cC m_rules m_changes m_mostTries m_tried m_settled m_found m_isCovered m_covered m_toldMany m_there x1 m_kinds m_targets m_predicates m_numbers m_puts m_codes m_weights m_sets m_picks m_classesl9 m_steps m_told)) [0, 1, 2, 3, 4, 5, 6, 7, 8, 9, 10, 11, 12, 13, 14] rfl
          have hDc := hD.sub (ws' := (wX m_a m_there_a m_now_a m_kinds_a m_targets_a m_predicates_a m_numbers_a m_puts_a m_codes_a m_weights_a m_sets_a m_picks_a m_classes_a m_steps_a m_told_a cI cZ cB cC m_rules m_changes m_mostTries m_tried m_settled m_found m_isCovered m_covered m_toldMany m_there x1 m_kinds m_targets m_predicates m_numbers m_puts m_codes m_weights m_sets m_picks m_classesl9 m_steps m_told)) [0, 1, 2, 3, 4, 5, 6, 7, 8, 9, 10, 11, 12, 13, 14] (by decide) rfl
          refine k_calli (wr := []) (w1 := (wX m_a m_there_a m_now_a m_kinds_a m_targets_a m_predicates_a m_numbers_a m_puts_a m_codes_a m_weights_a m_sets_a m_picks_a m_classes_a m_steps_a m_told_a cI cZ cB cC m_rules m_changes m_mostTries m_tried m_settled m_found m_isCovered m_covered m_toldMany m_there x1 m_kinds m_targets m_predicates m_numbers m_puts m_codes m_weights m_sets m_picks x4 m_steps m_told)) (ws' := (wX m_a m_there_a m_now_a m_kinds_a m_targets_a m_predicates_a m_numbers_a m_puts_a m_codes_a m_weights_a m_sets_a m_picks_a m_classes_a m_steps_a m_told_a cI cZ cB cC m_rules m_changes m_mostTries m_tried m_settled m_found m_isCovered m_covered m_toldMany m_there x1 m_kinds m_targets m_predicates m_numbers m_puts m_codes m_weights m_sets m_picks x4 m_steps m_told)) (va_runV (As := [.int (i3l9 / 12), .int (i3l9 - i3l9 / 12 * 12)]) (rest := []) ⟨hx, hb, hml, hown, hts⟩ (kK5_isResult l D cI cZ cB cC H.size m_a m_there_a m_now_a m_kinds_a m_targets_a m_predicates_a m_numbers_a m_puts_a m_codes_a m_weights_a m_sets_a m_picks_a m_classes_a m_steps_a m_told_a m_rules m_changes m_mostTries m_tried m_settled m_found m_isCovered m_covered m_toldMany m_there x1 m_kinds m_targets m_predicates m_numbers m_puts m_codes m_weights m_sets m_picks m_classesl9 m_steps m_told (i3l9 / 12) (i3l9 - i3l9 / 12 * 12) x3 x4 ec5) (cwV 2 hts (gdV wdt4_49 wdt4_51 wds1_14 wdt1_10 gkK5_isResult) rfl rfl rfl (by decide +kernel) ⟨Nat.le_of_ble_eq_true rfl, Nat.le_of_ble_eq_true rfl⟩) ⟨Pr_blind, va_recv hK hPc (ci := 5) (q0 := 0) rfl rfl, fun U hU hW => ⟨rfl, Pr_at hK hN hPc hDc hU hW⟩⟩ rfl rfl hl.1 rfl (lv_room (Nat.le_of_ble_eq_true rfl)) dK5_result_33 ⟨Nat.le_of_ble_eq_true rfl, Nat.le_of_ble_eq_true rfl⟩) hP hD hS hA [0, 1, 2, 3, 4, 5, 6, 7, 8, 9, 10, 11, 12, 13, 14] [] [0, 1, 2, 3, 4, 5, 6, 7, 8, 9, 10, 11, 12, 13, 14] rfl rfl (by decide) (by decide) (by decide) rfl (fun H locs hP hD hS => ?_)
          refine lv_istore (lv' := [(4, .int x3), (3, .int i3l9), (2, .int i2l9), (0, .ref m_a), (1, .int v1)]) hx hb dK5_result_36 hl (by decide) rfl (fun ls hl => ?_)
          refine lv_iload hx hb dK5_result_38 (lv_at hl 0 rfl) ?_
          refine lv_if_eq (tgt := 49) hx hb dK5_result_40 (by decide) (fun hc => ?_) (fun hc => ?_)
          · replace hm := ift hm hc
            refine lv_iload_n hx hb dK5_result_49 rfl (lv_at hl 2 rfl) ?_
            refine lv_iload hx hb dK5_result_50 (lv_at hl 0 rfl) ?_
            refine lv_if_eq (tgt := 59) hx hb dK5_result_52 (by decide) (fun hc => ?_) (fun hc => ?_)
            · replace hm := ift hm hc
              refine lv_iconst (v := 0) hx hb dK5_result_59 (by decide) ?_
              refine lv_isub hx hb dK5_result_60 ?_
              obtain ⟨x6, ex6, hm⟩ := bd1_s hm
              refine topi (Option.some.inj ex6) ?_
              refine lv_istore_n (lv' := [(2, .int x6), (4, .int x3), (3, .int i3l9), (0, .ref m_a), (1, .int v1)]) hx hb dK5_result_61 rfl hl (by decide) rfl (fun ls hl => ?_)
              obtain ⟨x7, ex7, hm⟩ := bd1_s hm
              refine lv_iinc (v := x7) (lv' := [(3, .int x7), (2, .int x6), (4, .int x3), (0, .ref m_a), (1, .int v1)]) hx hb dK5_result_62 hl (k := 2) rfl (by rw [← Option.some.inj ex7]; rfl) (by decide) rfl (fun ls hl => ?_)
              refine lv_goto (tgt := 9) hx hb dK5_result_65 (by decide) ?_
              exact ih9 x6 x7 x4 _ _ _ hm hP hD hS (lv_sub hl [0, 1, 3, 4] rfl)
            · replace hm := iff_ hm hc
              refine lv_iconst (v := 1) hx hb dK5_result_55 (by decide) ?_
              refine lv_goto (tgt := 60) hx hb dK5_result_56 (by decide) ?_
              refine lv_isub hx hb dK5_result_60 ?_
              obtain ⟨x8, ex8, hm⟩ := bd1_s hm
              refine topi (Option.some.inj ex8) ?_
              refine lv_istore_n (lv' := [(2, .int x8), (4, .int x3), (3, .int i3l9), (0, .ref m_a), (1, .int v1)]) hx hb dK5_result_61 rfl hl (by decide) rfl (fun ls hl => ?_)
              obtain ⟨x9, ex9, hm⟩ := bd1_s hm
              refine lv_iinc (v := x9) (lv' := [(3, .int x9), (2, .int x8), (4, .int x3), (0, .ref m_a), (1, .int v1)]) hx hb dK5_result_62 hl (k := 2) rfl (by rw [← Option.some.inj ex9]; rfl) (by decide) rfl (fun ls hl => ?_)
              refine lv_goto (tgt := 9) hx hb dK5_result_65 (by decide) ?_
              exact ih9 x8 x9 x4 _ _ _ hm hP hD hS (lv_sub hl [0, 1, 3, 4] rfl)
          · replace hm := iff_ hm hc
            refine lv_iload_n hx hb dK5_result_43 rfl (lv_at hl 2 rfl) ?_
            refine lv_if_ne (tgt := 49) hx hb dK5_result_44 (by decide) (fun hc => ?_) (fun hc => ?_)
            · replace hm := iff_ hm hc
              refine lv_iload_n hx hb dK5_result_49 rfl (lv_at hl 2 rfl) ?_
              refine lv_iload hx hb dK5_result_50 (lv_at hl 0 rfl) ?_
              refine lv_if_eq (tgt := 59) hx hb dK5_result_52 (by decide) (fun hc => ?_) (fun hc => ?_)
              · replace hm := ift hm hc
                refine lv_iconst (v := 0) hx hb dK5_result_59 (by decide) ?_
                refine lv_isub hx hb dK5_result_60 ?_
                obtain ⟨x10, ex10, hm⟩ := bd1_s hm
                refine topi (Option.some.inj ex10) ?_
                refine lv_istore_n (lv' := [(2, .int x10), (4, .int x3), (3, .int i3l9), (0, .ref m_a), (1, .int v1)]) hx hb dK5_result_61 rfl hl (by decide) rfl (fun ls hl => ?_)
                obtain ⟨x11, ex11, hm⟩ := bd1_s hm
                refine lv_iinc (v := x11) (lv' := [(3, .int x11), (2, .int x10), (4, .int x3), (0, .ref m_a), (1, .int v1)]) hx hb dK5_result_62 hl (k := 2) rfl (by rw [← Option.some.inj ex11]; rfl) (by decide) rfl (fun ls hl => ?_)
                refine lv_goto (tgt := 9) hx hb dK5_result_65 (by decide) ?_
                exact ih9 x10 x11 x4 _ _ _ hm hP hD hS (lv_sub hl [0, 1, 3, 4] rfl)
              · replace hm := iff_ hm hc
                refine lv_iconst (v := 1) hx hb dK5_result_55 (by decide) ?_
                refine lv_goto (tgt := 60) hx hb dK5_result_56 (by decide) ?_
                refine lv_isub hx hb dK5_result_60 ?_
                obtain ⟨x12, ex12, hm⟩ := bd1_s hm
                refine topi (Option.some.inj ex12) ?_
                refine lv_istore_n (lv' := [(2, .int x12), (4, .int x3), (3, .int i3l9), (0, .ref m_a), (1, .int v1)]) hx hb dK5_result_61 rfl hl (by decide) rfl (fun ls hl => ?_)
                obtain ⟨x13, ex13, hm⟩ := bd1_s hm
                refine lv_iinc (v := x13) (lv' := [(3, .int x13), (2, .int x12), (4, .int x3), (0, .ref m_a), (1, .int v1)]) hx hb dK5_result_62 hl (k := 2) rfl (by rw [← Option.some.inj ex13]; rfl) (by decide) rfl (fun ls hl => ?_)
                refine lv_goto (tgt := 9) hx hb dK5_result_65 (by decide) ?_
                exact ih9 x12 x13 x4 _ _ _ hm hP hD hS (lv_sub hl [0, 1, 3, 4] rfl)
            · replace hm := ift hm hc
              refine lv_iload_n hx hb dK5_result_47 rfl (lv_at hl 1 rfl) ?_
              replace hm := Option.some.inj hm
              simp only [Prod.mk.injEq] at hm
              obtain ⟨rfl, rfl, rfl⟩ := hm
              exact k_reti hx hb hr hlocks hP hD hS dK5_result_48
  exact lp9 5000 v1 0 m_classes _ _ _ hm hP hD hS (lv_sub hl [0, 1, 2, 3] rfl)
def mK5_isOf (m_changes : Int32) (m_there : Nat → Int32) (m_now : Nat → Int32) (m_puts : Nat → Int32) (m_codes : Nat → Int32) (m_classes : Nat → Int32) (v1 : Int32) (v2 : Int32) : Option (Int32 × (Nat → Int32) × (Nat → Int32)) :=
  bd1 (mK5_in v1 0 11) fun x1 => if x1 = 0 then
  (some ((-1), m_now, m_classes))
  else
  (bd1 (mK5_in v2 0 11) fun x3 => if x3 = 0 then
    (some ((-1), m_now, m_classes))
    else
    (bd1 (mK5_begin m_changes m_there m_now m_puts m_codes 0) fun x5 => bd2 (mK5_isOfNow x5 m_classes v1 v2) fun x7 x8 => if x7 = 0 then
      (some (0, x5, x8))
      else
      (some (1, x5, x8))))
abbrev rmK5_isOf : Room := { frames := 2, cells := 0, slots := 0, locals := 47 }
set_option maxHeartbeats 4000000 in
set_option maxRecDepth 100000 in
theorem kK5_isOf (l : Launch) (D : va_G) (cI cZ cB cC : ClassId) (sz : Nat) (m_a : Nat) (m_there_a : Nat) (m_now_a : Nat) (m_kinds_a : Nat) (m_targets_a : Nat) (m_predicates_a : Nat) (m_numbers_a : Nat) (m_puts_a : Nat) (m_codes_a : Nat) (m_weights_a : Nat) (m_sets_a : Nat) (m_picks_a : Nat) (m_classes_a : Nat) (m_steps_a : Nat) (m_told_a : Nat) (m_rules : Int32) (m_changes : Int32) (m_mostTries : Int32) (m_tried : Int32) (m_settled : Int32) (m_found : Int32) (m_isCovered : Int32) (m_covered : Int32) (m_toldMany : Int32) (m_there : Nat → Int32) (m_now : Nat → Int32) (m_kinds : Nat → Int32) (m_targets : Nat → Int32) (m_predicates : Nat → Int32) (m_numbers : Nat → Int32) (m_puts : Nat → Int32) (m_codes : Nat → Int32) (m_weights : Nat → Int32) (m_sets : Nat → Int32) (m_picks : Nat → Int32) (m_classes : Nat → Int32) (m_steps : Nat → Int32) (m_told : Nat → Int32) (v1 : Int32) (v2 : Int32) (r0 : Int32) (m_now_r : Nat → Int32) (m_classes_r : Nat → Int32) (hm : mK5_isOf m_changes m_there m_now m_puts m_codes m_classes v1 v2 = some (r0, m_now_r, m_classes_r)) : Met l yK5_isOf wsK5_isOf rmK5_isOf (va_Pc [.ref m_a, .int v1, .int v2] (Pr D (tyL cI cZ cB cC) sz (wX m_a m_there_a m_now_a m_kinds_a m_targets_a m_predicates_a m_numbers_a m_puts_a m_codes_a m_weights_a m_sets_a m_picks_a m_classes_a m_steps_a m_told_a cI cZ cB cC m_rules m_changes m_mostTries m_tried m_settled m_found m_isCovered m_covered m_toldMany m_there m_now m_kinds m_targets m_predicates m_numbers m_puts m_codes m_weights m_sets m_picks m_classes m_steps m_told))) (QI D (va_A (wX m_a m_there_a m_now_a m_kinds_a m_targets_a m_predicates_a m_numbers_a m_puts_a m_codes_a m_weights_a m_sets_a m_picks_a m_classes_a m_steps_a m_told_a cI cZ cB cC m_rules m_changes m_mostTries m_tried m_settled m_found m_isCovered m_covered m_toldMany m_there m_now m_kinds m_targets m_predicates m_numbers m_puts m_codes m_weights m_sets m_picks m_classes m_steps m_told) sz) r0 (wX m_a m_there_a m_now_a m_kinds_a m_targets_a m_predicates_a m_numbers_a m_puts_a m_codes_a m_weights_a m_sets_a m_picks_a m_classes_a m_steps_a m_told_a cI cZ cB cC m_rules m_changes m_mostTries m_tried m_settled m_found m_isCovered m_covered m_toldMany m_there m_now_r m_kinds m_targets m_predicates m_numbers m_puts m_codes m_weights m_sets m_picks m_classes_r m_steps m_told)) 0 0 (va_A (wX m_a m_there_a m_now_a m_kinds_a m_targets_a m_predicates_a m_numbers_a m_puts_a m_codes_a m_weights_a m_sets_a m_picks_a m_classes_a m_steps_a m_told_a cI cZ cB cC m_rules m_changes m_mostTries m_tried m_settled m_found m_isCovered m_covered m_toldMany m_there m_now m_kinds m_targets m_predicates m_numbers m_puts m_codes m_weights m_sets m_picks m_classes m_steps m_told) sz) := by
  refine Met.ofW (cc := cK5_isOf) (maxL := 3) (ret := (some .int)) (by decide) rfl ?_
  intro p e s m args below meth c s₁ B hml hv
  obtain ⟨rfl, hsz, hP, hK, hD0, hN⟩ := hv
  have hx := B.exec
  have hb := B.bytes
  have hr := B.returns
  have hts := htsA (atoms_spec (ws := wsK5_isOf) B.pre)
  have hown : s.vm.findClass RK5 = some m.cls := findClass_of_methodNamed B.named
  have hlocks := B.notSynchronized
  subst hsz
  have hD := hD0.self (sz := s.heap.size)
  generalize hAe : va_A (wX m_a m_there_a m_now_a m_kinds_a m_targets_a m_predicates_a m_numbers_a m_puts_a m_codes_a m_weights_a m_sets_a m_picks_a m_classes_a m_steps_a m_told_a cI cZ cB cC m_rules m_changes m_mostTries m_tried m_settled m_found m_isCovered m_covered m_toldMany m_there m_now m_kinds m_targets m_predicates m_numbers m_puts m_codes m_weights m_sets m_picks m_classes m_steps m_told) s.heap.size = A at hD ⊢
  have hA : ∀ q : Nat, s.heap.size ≤ q → A q := fun q h => by rw [← hAe]; exact Or.inr h
  refine kstart (A := A) hP (fun H hP hS => ?_)
  have hl := lv_entry ([.ref m_a, .int v1, .int v2]) (n := 3) (Nat.le_of_ble_eq_true rfl)
  rw [lg_entry_eq]
  generalize (lg_sl ([.ref m_a, .int v1, .int v2]) ++ List.replicate (3 - (lg_sl ([.ref m_a, .int v1, .int v2])).length) Slot.unset).toArray = ls at hl ⊢
  have hl : lv_has ls 3 [(0, .ref m_a), (1, .int v1), (2, .int v2)] := hl
  unfold mK5_isOf at hm
  refine lv_iload_n hx hb dK5_isOf_0 rfl (lv_at hl 1 rfl) ?_
  refine lv_iconst (v := 0) hx hb dK5_isOf_1 (by decide) ?_
  refine lv_bipush (v := 11) hx hb dK5_isOf_2 (by decide) ?_
  obtain ⟨x1, ec2, hm⟩ := bd1_s hm
  have hPc : va_P D vwCl [] H := va_P0
  have hDc : va_D A [] := va_D0
  refine k_calli0 (va_runS (As := [.int v1, .int 0, .int 11]) (rest := []) ⟨hx, hb, hml, hown, hts⟩ (kK5_in l D cI cZ cB cC H.size v1 0 11 x1 ec2) (va_cwS 3 hts (gdS wdt4_23 wdt4_24 wdt1_10 gkK5_in) rfl rfl rfl (by decide +kernel) ⟨Nat.le_of_ble_eq_true rfl, Nat.le_of_ble_eq_true rfl⟩) ⟨Pr_blind, fun U hU hW => ⟨rfl, Pr_at hK hN hPc hDc hU hW⟩⟩ rfl rfl hl.1 rfl (lv_room (Nat.le_of_ble_eq_true rfl)) dK5_isOf_4 ⟨Nat.le_of_ble_eq_true rfl, Nat.le_of_ble_eq_true rfl⟩) hP hD hS hA (fun H locs hP hD hS => ?_)
  refine lv_if_eq (tgt := 20) hx hb dK5_isOf_7 (by decide) (fun hc => ?_) (fun hc => ?_)
  · replace hm := ift hm hc
    refine lv_iconst (v := (-1)) hx hb dK5_isOf_20 (by decide) ?_
    replace hm := Option.some.inj hm
    simp only [Prod.mk.injEq] at hm
    obtain ⟨rfl, rfl, rfl⟩ := hm
    exact k_reti hx hb hr hlocks hP hD hS dK5_isOf_21
  · replace hm := iff_ hm hc
    refine lv_iload_n hx hb dK5_isOf_10 rfl (lv_at hl 2 rfl) ?_
    refine lv_iconst (v := 0) hx hb dK5_isOf_11 (by decide) ?_
    refine lv_bipush (v := 11) hx hb dK5_isOf_12 (by decide) ?_
    obtain ⟨x3, ec4, hm⟩ := bd1_s hm
    have hPc : va_P D vwCl [] H := va_P0
    have hDc : va_D A [] := va_D0
    refine k_calli0 (va_runS (As := [.int v2, .int 0, .int 11]) (rest := []) ⟨hx, hb, hml, hown, hts⟩ (kK5_in l D cI cZ cB cC H.size v2 0 11 x3 ec4) (va_cwS 3 hts (gdS wdt4_23 wdt4_24 wdt1_10 gkK5_in) rfl rfl rfl (by decide +kernel) ⟨Nat.le_of_ble_eq_true rfl, Nat.le_of_ble_eq_true rfl⟩) ⟨Pr_blind, fun U hU hW => ⟨rfl, Pr_at hK hN hPc hDc hU hW⟩⟩ rfl rfl hl.1 rfl (lv_room (Nat.le_of_ble_eq_true rfl)) dK5_isOf_14 ⟨Nat.le_of_ble_eq_true rfl, Nat.le_of_ble_eq_true rfl⟩) hP hD hS hA (fun H locs hP hD hS => ?_)
    refine lv_if_ne (tgt := 22) hx hb dK5_isOf_17 (by decide) (fun hc => ?_) (fun hc => ?_)
    · replace hm := iff_ hm hc
      refine lv_aload_n hx hb dK5_isOf_22 rfl (lv_at hl 0 rfl) ?_
      refine lv_iconst (v := 0) hx hb dK5_isOf_23 (by decide) ?_
      obtain ⟨x5, ec6, hm⟩ := bd1_s hm
      have hPc := hP.sub (ws' := (wX m_a m_there_a m_now_a m_kinds_a m_targets_a m_predicates_a m_numbers_a m_puts_a m_codes_a m_weights_a m_sets_a m_picks_a m_classes_a m_steps_a m_told_a cI cZ cB cC m_rules m_changes m_mostTries m_tried m_settled m_found m_isCovered m_covered m_toldMany m_there m_now m_kinds m_targets m_predicates m_numbers m_puts m_codes m_weights m_sets m_picks m_classes m_steps m_told)) [0, 1, 2, 3, 4, 5, 6, 7, 8, 9, 10, 11, 12, 13, 14] rfl
      have hDc := hD.sub (ws' := (wX m_a m_there_a m_now_a m_kinds_a m_targets_a m_predicates_a m_numbers_a m_puts_a m_codes_a m_weights_a m_sets_a m_picks_a m_classes_a m_steps_a m_told_a cI cZ cB cC m_rules m_changes m_mostTries m_tried m_settled m_found m_isCovered m_covered m_toldMany m_there m_now m_kinds m_targets m_predicates m_numbers m_puts m_codes m_weights m_sets m_picks m_classes m_steps m_told)) [0, 1, 2, 3, 4, 5, 6, 7, 8, 9, 10, 11, 12, 13, 14] (by decide) rfl
      refine k_callv (wr := []) (w1 := (wX m_a m_there_a m_now_a m_kinds_a m_targets_a m_predicates_a m_numbers_a m_puts_a m_codes_a m_weights_a m_sets_a m_picks_a m_classes_a m_steps_a m_told_a cI cZ cB cC m_rules m_changes m_mostTries m_tried m_settled m_found m_isCovered m_covered m_toldMany m_there x5 m_kinds m_targets m_predicates m_numbers m_puts m_codes m_weights m_sets m_picks m_classes m_steps m_told)) (ws' := (wX m_a m_there_a m_now_a m_kinds_a m_targets_a m_predicates_a m_numbers_a m_puts_a m_codes_a m_weights_a m_sets_a m_picks_a m_classes_a m_steps_a m_told_a cI cZ cB cC m_rules m_changes m_mostTries m_tried m_settled m_found m_isCovered m_covered m_toldMany m_there x5 m_kinds m_targets m_predicates m_numbers m_puts m_codes m_weights m_sets m_picks m_classes m_steps m_told)) (va_runV (As := [.int 0]) (rest := []) ⟨hx, hb, hml, hown, hts⟩ (kK5_begin l D cI cZ cB cC H.size m_a m_there_a m_now_a m_kinds_a m_targets_a m_predicates_a m_numbers_a m_puts_a m_codes_a m_weights_a m_sets_a m_picks_a m_classes_a m_steps_a m_told_a m_rules m_changes m_mostTries m_tried m_settled m_found m_isCovered m_covered m_toldMany m_there m_now m_kinds m_targets m_predicates m_numbers m_puts m_codes m_weights m_sets m_picks m_classes m_steps m_told 0 x5 ec6) (cwV 1 hts (gdV wdt4_41 wdt4_43 wds1_12 wdt1_10 gkK5_begin) rfl rfl rfl (by decide +kernel) ⟨Nat.le_of_ble_eq_true rfl, Nat.le_of_ble_eq_true rfl⟩) ⟨Pr_blind, va_recv hK hPc (ci := 5) (q0 := 0) rfl rfl, fun U hU hW => ⟨rfl, Pr_at hK hN hPc hDc hU hW⟩⟩ rfl rfl hl.1 rfl (lv_room (Nat.le_of_ble_eq_true rfl)) dK5_isOf_24 ⟨Nat.le_of_ble_eq_true rfl, Nat.le_of_ble_eq_true rfl⟩) hP hD hS hA [0, 1, 2, 3, 4, 5, 6, 7, 8, 9, 10, 11, 12, 13, 14] [] [0, 1, 2, 3, 4, 5, 6, 7, 8, 9, 10, 11, 12, 13, 14] rfl rfl (by decide) (by decide) (by decide) rfl (fun H locs hP hD hS => ?_)
      refine lv_aload_n hx hb dK5_isOf_27 rfl (lv_at hl 0 rfl) ?_
      refine lv_iload_n hx hb dK5_isOf_28 rfl (lv_at hl 1 rfl) ?_
      refine lv_iload_n hx hb dK5_isOf_29 rfl (lv_at hl 2 rfl) ?_
      obtain ⟨x7, x8, ec9, hm⟩ := bd2_s hm
      have hPc := hP.sub (ws' := (wX m_a m_there_a m_now_a m_kinds_a m_targets_a m_predicates_a m_numbers_a m_puts_a m_codes_a m_weights_a m_sets_a m_picks_a m_classes_a m_steps_a m_told_a cI cZ cB cC m_rules m_changes m_mostTries m_tried m_settled m_found m_isCovered m_covered m_toldMany m_there x5 m_kinds m_targets m_predicates m_numbers m_puts m_codes m_weights m_sets m_picks m_classes m_steps m_told)) [0, 1, 2, 3, 4, 5, 6, 7, 8, 9, 10, 11, 12, 13, 14] rfl
      have hDc := hD.sub (ws' := (wX m_a m_there_a m_now_a m_kinds_a m_targets_a m_predicates_a m_numbers_a m_puts_a m_codes_a m_weights_a m_sets_a m_picks_a m_classes_a m_steps_a m_told_a cI cZ cB cC m_rules m_changes m_mostTries m_tried m_settled m_found m_isCovered m_covered m_toldMany m_there x5 m_kinds m_targets m_predicates m_numbers m_puts m_codes m_weights m_sets m_picks m_classes m_steps m_told)) [0, 1, 2, 3, 4, 5, 6, 7, 8, 9, 10, 11, 12, 13, 14] (by decide) rfl
      refine k_calli (wr := []) (w1 := (wX m_a m_there_a m_now_a m_kinds_a m_targets_a m_predicates_a m_numbers_a m_puts_a m_codes_a m_weights_a m_sets_a m_picks_a m_classes_a m_steps_a m_told_a cI cZ cB cC m_rules m_changes m_mostTries m_tried m_settled m_found m_isCovered m_covered m_toldMany m_there x5 m_kinds m_targets m_predicates m_numbers m_puts m_codes m_weights m_sets m_picks x8 m_steps m_told)) (ws' := (wX m_a m_there_a m_now_a m_kinds_a m_targets_a m_predicates_a m_numbers_a m_puts_a m_codes_a m_weights_a m_sets_a m_picks_a m_classes_a m_steps_a m_told_a cI cZ cB cC m_rules m_changes m_mostTries m_tried m_settled m_found m_isCovered m_covered m_toldMany m_there x5 m_kinds m_targets m_predicates m_numbers m_puts m_codes m_weights m_sets m_picks x8 m_steps m_told)) (va_runV (As := [.int v1, .int v2]) (rest := []) ⟨hx, hb, hml, hown, hts⟩ (kK5_isOfNow l D cI cZ cB cC H.size m_a m_there_a m_now_a m_kinds_a m_targets_a m_predicates_a m_numbers_a m_puts_a m_codes_a m_weights_a m_sets_a m_picks_a m_classes_a m_steps_a m_told_a m_rules m_changes m_mostTries m_tried m_settled m_found m_isCovered m_covered m_toldMany m_there x5 m_kinds m_targets m_predicates m_numbers m_puts m_codes m_weights m_sets m_picks m_classes m_steps m_told v1 v2 x7 x8 ec9) (cwV 2 hts (gdV wdt4_53 wdt4_55 wds1_15 wdt1_10 gkK5_isOfNow) rfl rfl rfl (by decide +kernel) ⟨Nat.le_of_ble_eq_true rfl, Nat.le_of_ble_eq_true rfl⟩) ⟨Pr_blind, va_recv hK hPc (ci := 5) (q0 := 0) rfl rfl, fun U hU hW => ⟨rfl, Pr_at hK hN hPc hDc hU hW⟩⟩ rfl rfl hl.1 rfl (lv_room (Nat.le_of_ble_eq_true rfl)) dK5_isOf_30 ⟨Nat.le_of_ble_eq_true rfl, Nat.le_of_ble_eq_true rfl⟩) hP hD hS hA [0, 1, 2, 3, 4, 5, 6, 7, 8, 9, 10, 11, 12, 13, 14] [] [0, 1, 2, 3, 4, 5, 6, 7, 8, 9, 10, 11, 12, 13, 14] rfl rfl (by decide) (by decide) (by decide) rfl (fun H locs hP hD hS => ?_)
      refine lv_if_eq (tgt := 40) hx hb dK5_isOf_33 (by decide) (fun hc => ?_) (fun hc => ?_)
      · replace hm := ift hm hc
        refine lv_iconst (v := 0) hx hb dK5_isOf_40 (by decide) ?_
        replace hm := Option.some.inj hm
        simp only [Prod.mk.injEq] at hm
        obtain ⟨rfl, rfl, rfl⟩ := hm
        exact k_reti hx hb hr hlocks hP hD hS dK5_isOf_41
      · replace hm := iff_ hm hc
        refine lv_iconst (v := 1) hx hb dK5_isOf_36 (by decide) ?_
        refine lv_goto (tgt := 41) hx hb dK5_isOf_37 (by decide) ?_
        replace hm := Option.some.inj hm
        simp only [Prod.mk.injEq] at hm
        obtain ⟨rfl, rfl, rfl⟩ := hm
        exact k_reti hx hb hr hlocks hP hD hS dK5_isOf_41
    · replace hm := ift hm hc
      refine lv_iconst (v := (-1)) hx hb dK5_isOf_20 (by decide) ?_
      replace hm := Option.some.inj hm
      simp only [Prod.mk.injEq] at hm
      obtain ⟨rfl, rfl, rfl⟩ := hm
      exact k_reti hx hb hr hlocks hP hD hS dK5_isOf_21
def mK5_measure_A33 (m_stepsx33 : Nat → Int32) : Option ((Nat → Int32)) :=
  some m_stepsx33
def mK5_measure_A41 (i2l33 : Int32) (rc33 : Int32 → (Nat → Int32) → (Option ((Nat → Int32)))) (m_stepsx41 : Nat → Int32) : Option ((Nat → Int32)) :=
  bd1 (some (i2l33 + 1)) fun x1 => rc33 x1 m_stepsx41
def mK5_measure_A50 (i3l41 : Int32) (rc41 : Int32 → (Nat → Int32) → (Option ((Nat → Int32)))) (m_stepsx50 : Nat → Int32) : Option ((Nat → Int32)) :=
  bd1 (some (i3l41 + 1)) fun x2 => rc41 x2 m_stepsx50
def mK5_measure_B50 (m_there : Nat → Int32) (i3l41 : Int32) (kx50 : (Nat → Int32) → (Option ((Nat → Int32)))) (rc50 : Int32 → (Nat → Int32) → (Option ((Nat → Int32)))) (i4l50 : Int32) (m_stepsl50 : Nat → Int32) : Option ((Nat → Int32)) :=
  if 12 ≤ i4l50 then
  (kx50 m_stepsl50)
  else
  (bd1 (mK5_codeOf i3l41 1 i4l50) fun x3 => bd1 (rd m_there 864 x3) fun x5 => if x5 = 0 then
    (bd1 (some (i4l50 + 1)) fun x6 => rc50 x6 m_stepsl50)
    else
    (bd1 (rd m_stepsl50 12 i4l50) fun x7 => bd1 (rd m_stepsl50 12 i3l41) fun x8 => if x8 ≤ (x7 + 1) then
      (bd1 (some (i4l50 + 1)) fun x9 => rc50 x9 m_stepsl50)
      else
      (bd1 (rd m_stepsl50 12 i4l50) fun x10 => bd1 (wrt m_stepsl50 12 i3l41 (x10 + 1)) fun x11 => bd1 (some (i4l50 + 1)) fun x12 => rc50 x12 x11)))
def mK5_measure_L50 (m_there : Nat → Int32) (i3l41 : Int32) (kx50 : (Nat → Int32) → (Option ((Nat → Int32)))) : Nat → Int32 → (Nat → Int32) → (Option ((Nat → Int32)))
  | 0, _, _ => none
  | n + 1, i4l50, m_stepsl50 => mK5_measure_B50 m_there i3l41 kx50 (mK5_measure_L50 m_there i3l41 kx50 n) i4l50 m_stepsl50
def mK5_measure_B41 (m_there : Nat → Int32) (kx41 : (Nat → Int32) → (Option ((Nat → Int32)))) (rc41 : Int32 → (Nat → Int32) → (Option ((Nat → Int32)))) (i3l41 : Int32) (m_stepsl41 : Nat → Int32) : Option ((Nat → Int32)) :=
  if 12 ≤ i3l41 then
  (kx41 m_stepsl41)
  else
  (mK5_measure_L50 m_there i3l41 (mK5_measure_A50 i3l41 rc41) 5000 0 m_stepsl41)
def mK5_measure_L41 (m_there : Nat → Int32) (kx41 : (Nat → Int32) → (Option ((Nat → Int32)))) : Nat → Int32 → (Nat → Int32) → (Option ((Nat → Int32)))
  | 0, _, _ => none
  | n + 1, i3l41, m_stepsl41 => mK5_measure_B41 m_there kx41 (mK5_measure_L41 m_there kx41 n) i3l41 m_stepsl41
def mK5_measure_B33 (m_there : Nat → Int32) (kx33 : (Nat → Int32) → (Option ((Nat → Int32)))) (rc33 : Int32 → (Nat → Int32) → (Option ((Nat → Int32)))) (i2l33 : Int32) (m_stepsl33 : Nat → Int32) : Option ((Nat → Int32)) :=
  if 12 ≤ i2l33 then
  (kx33 m_stepsl33)
  else
  (mK5_measure_L41 m_there (mK5_measure_A41 i2l33 rc33) 5000 0 m_stepsl33)
def mK5_measure_L33 (m_there : Nat → Int32) (kx33 : (Nat → Int32) → (Option ((Nat → Int32)))) : Nat → Int32 → (Nat → Int32) → (Option ((Nat → Int32)))
  | 0, _, _ => none
  | n + 1, i2l33, m_stepsl33 => mK5_measure_B33 m_there kx33 (mK5_measure_L33 m_there kx33 n) i2l33 m_stepsl33
def mK5_measure_A2 (m_there : Nat → Int32) (m_stepsx2 : Nat → Int32) : Option ((Nat → Int32)) :=
  mK5_measure_L33 m_there (mK5_measure_A33) 5000 0 m_stepsx2
def mK5_measure_B2 (v1 : Int32) (kx2 : (Nat → Int32) → (Option ((Nat → Int32)))) (rc2 : Int32 → (Nat → Int32) → (Option ((Nat → Int32)))) (i2l2 : Int32) (m_stepsl2 : Nat → Int32) : Option ((Nat → Int32)) :=
  if 12 ≤ i2l2 then
  (kx2 m_stepsl2)
  else
  (if i2l2 = v1 then
    (bd1 (wrt m_stepsl2 12 i2l2 0) fun x15 => bd1 (some (i2l2 + 1)) fun x16 => rc2 x16 x15)
    else
    (bd1 (wrt m_stepsl2 12 i2l2 99) fun x13 => bd1 (some (i2l2 + 1)) fun x14 => rc2 x14 x13))
def mK5_measure_L2 (v1 : Int32) (kx2 : (Nat → Int32) → (Option ((Nat → Int32)))) : Nat → Int32 → (Nat → Int32) → (Option ((Nat → Int32)))
  | 0, _, _ => none
  | n + 1, i2l2, m_stepsl2 => mK5_measure_B2 v1 kx2 (mK5_measure_L2 v1 kx2 n) i2l2 m_stepsl2
def mK5_measure (m_there : Nat → Int32) (m_steps : Nat → Int32) (v1 : Int32) : Option ((Nat → Int32)) :=
  mK5_measure_L2 v1 (mK5_measure_A2 m_there) 5000 0 m_steps
abbrev rmK5_measure : Room := { frames := 1, cells := 0, slots := 0, locals := 22 }
set_option maxHeartbeats 4000000 in
set_option maxRecDepth 100000 in
theorem kK5_measure (l : Launch) (D : va_G) (cI cZ cB cC : ClassId) (sz : Nat) (m_a : Nat) (m_there_a : Nat) (m_now_a : Nat) (m_kinds_a : Nat) (m_targets_a : Nat) (m_predicates_a : Nat) (m_numbers_a : Nat) (m_puts_a : Nat) (m_codes_a : Nat) (m_weights_a : Nat) (m_sets_a : Nat) (m_picks_a : Nat) (m_classes_a : Nat) (m_steps_a : Nat) (m_told_a : Nat) (m_rules : Int32) (m_changes : Int32) (m_mostTries : Int32) (m_tried : Int32) (m_settled : Int32) (m_found : Int32) (m_isCovered : Int32) (m_covered : Int32) (m_toldMany : Int32) (m_there : Nat → Int32) (m_now : Nat → Int32) (m_kinds : Nat → Int32) (m_targets : Nat → Int32) (m_predicates : Nat → Int32) (m_numbers : Nat → Int32) (m_puts : Nat → Int32) (m_codes : Nat → Int32) (m_weights : Nat → Int32) (m_sets : Nat → Int32) (m_picks : Nat → Int32) (m_classes : Nat → Int32) (m_steps : Nat → Int32) (m_told : Nat → Int32) (v1 : Int32) (m_steps_r : Nat → Int32) (hm : mK5_measure m_there m_steps v1 = some m_steps_r) : Met l yK5_measure wsK5_measure rmK5_measure (va_Pc [.ref m_a, .int v1] (Pr D (tyL cI cZ cB cC) sz (wX m_a m_there_a m_now_a m_kinds_a m_targets_a m_predicates_a m_numbers_a m_puts_a m_codes_a m_weights_a m_sets_a m_picks_a m_classes_a m_steps_a m_told_a cI cZ cB cC m_rules m_changes m_mostTries m_tried m_settled m_found m_isCovered m_covered m_toldMany m_there m_now m_kinds m_targets m_predicates m_numbers m_puts m_codes m_weights m_sets m_picks m_classes m_steps m_told))) (QV D (va_A (wX m_a m_there_a m_now_a m_kinds_a m_targets_a m_predicates_a m_numbers_a m_puts_a m_codes_a m_weights_a m_sets_a m_picks_a m_classes_a m_steps_a m_told_a cI cZ cB cC m_rules m_changes m_mostTries m_tried m_settled m_found m_isCovered m_covered m_toldMany m_there m_now m_kinds m_targets m_predicates m_numbers m_puts m_codes m_weights m_sets m_picks m_classes m_steps m_told) sz) (wX m_a m_there_a m_now_a m_kinds_a m_targets_a m_predicates_a m_numbers_a m_puts_a m_codes_a m_weights_a m_sets_a m_picks_a m_classes_a m_steps_a m_told_a cI cZ cB cC m_rules m_changes m_mostTries m_tried m_settled m_found m_isCovered m_covered m_toldMany m_there m_now m_kinds m_targets m_predicates m_numbers m_puts m_codes m_weights m_sets m_picks m_classes m_steps_r m_told)) 0 0 (va_A (wX m_a m_there_a m_now_a m_kinds_a m_targets_a m_predicates_a m_numbers_a m_puts_a m_codes_a m_weights_a m_sets_a m_picks_a m_classes_a m_steps_a m_told_a cI cZ cB cC m_rules m_changes m_mostTries m_tried m_settled m_found m_isCovered m_covered m_toldMany m_there m_now m_kinds m_targets m_predicates m_numbers m_puts m_codes m_weights m_sets m_picks m_classes m_steps m_told) sz) := by
  refine Met.ofW (cc := cK5_measure) (maxL := 5) (ret := none) (by decide) rfl ?_
  intro p e s m args below meth c s₁ B hml hv
  obtain ⟨rfl, hsz, hP, hK, hD0, hN⟩ := hv
  have hx := B.exec
  have hb := B.bytes
  have hr := B.returns
  have hts := htsA (atoms_spec (ws := wsK5_measure) B.pre)
  have hown : s.vm.findClass RK5 = some m.cls := findClass_of_methodNamed B.named
  have hlocks := B.notSynchronized
  subst hsz
  have hD := hD0.self (sz := s.heap.size)
  generalize hAe : va_A (wX m_a m_there_a m_now_a m_kinds_a m_targets_a m_predicates_a m_numbers_a m_puts_a m_codes_a m_weights_a m_sets_a m_picks_a m_classes_a m_steps_a m_told_a cI cZ cB cC m_rules m_changes m_mostTries m_tried m_settled m_found m_isCovered m_covered m_toldMany m_there m_now m_kinds m_targets m_predicates m_numbers m_puts m_codes m_weights m_sets m_picks m_classes m_steps m_told) s.heap.size = A at hD ⊢
  have hA : ∀ q : Nat, s.heap.size ≤ q → A q := fun q h => by rw [← hAe]; exact Or.inr h
  refine kstart (A := A) hP (fun H hP hS => ?_)
  have hl := lv_entry ([.ref m_a, .int v1]) (n := 5) (Nat.le_of_ble_eq_true rfl)
  rw [lg_entry_eq]
  generalize (lg_sl ([.ref m_a, .int v1]) ++ List.replicate (5 - (lg_sl ([.ref m_a, .int v1])).length) Slot.unset).toArray = ls at hl ⊢
  have hl : lv_has ls 5 [(0, .ref m_a), (1, .int v1)] := hl
  unfold mK5_measure at hm
  refine lv_iconst (v := 0) hx hb dK5_measure_0 (by decide) ?_
  refine lv_istore_n (lv' := [(2, .int 0), (0, .ref m_a), (1, .int v1)]) hx hb dK5_measure_1 rfl hl (by decide) rfl (fun ls hl => ?_)
  have lx2 : ∀ (m_stepsx2 : Nat → Int32) (H : Heap) (locs : List Loc) (ls : Array Slot), mK5_measure_A2 m_there m_stepsx2 = some m_steps_r → va_P D vwCl (wX m_a m_there_a m_now_a m_kinds_a m_targets_a m_predicates_a m_numbers_a m_puts_a m_codes_a m_weights_a m_sets_a m_picks_a m_classes_a m_steps_a m_told_a cI cZ cB cC m_rules m_changes m_mostTries m_tried m_settled m_found m_isCovered m_covered m_toldMany m_there m_now m_kinds m_targets m_predicates m_numbers m_puts m_codes m_weights m_sets m_picks m_classes m_stepsx2 m_told) H → va_D A (wX m_a m_there_a m_now_a m_kinds_a m_targets_a m_predicates_a m_numbers_a m_puts_a m_codes_a m_weights_a m_sets_a m_picks_a m_classes_a m_steps_a m_told_a cI cZ cB cC m_rules m_changes m_mostTries m_tried m_settled m_found m_isCovered m_covered m_toldMany m_there m_now m_kinds m_targets m_predicates m_numbers m_puts m_codes m_weights m_sets m_picks m_classes m_stepsx2 m_told) → va_S A s.heap H locs → lv_has ls 5 [(0, .ref m_a)] → W p l e (headSpec wsK5_measure rmK5_measure).room s m ([.ref m_a, .int v1] : List Value).toArray below meth c H locs 0 0 (MQ below (QV D A (wX m_a m_there_a m_now_a m_kinds_a m_targets_a m_predicates_a m_numbers_a m_puts_a m_codes_a m_weights_a m_sets_a m_picks_a m_classes_a m_steps_a m_told_a cI cZ cB cC m_rules m_changes m_mostTries m_tried m_settled m_found m_isCovered m_covered m_toldMany m_there m_now m_kinds m_targets m_predicates m_numbers m_puts m_codes m_weights m_sets m_picks m_classes m_steps_r m_told)) ([.ref m_a, .int v1] : List Value).toArray s 0 0 A) (F0 m 31 ls []) := by
    intro m_stepsx2 H locs ls hm hP hD hS hl
    unfold mK5_measure_A2 at hm
    refine lv_iconst (v := 0) hx hb dK5_measure_31 (by decide) ?_
    refine lv_istore_n (lv' := [(2, .int 0), (0, .ref m_a)]) hx hb dK5_measure_32 rfl hl (by decide) rfl (fun ls hl => ?_)
    have lx33 : ∀ (m_stepsx33 : Nat → Int32) (H : Heap) (locs : List Loc) (ls : Array Slot), mK5_measure_A33 m_stepsx33 = some m_steps_r → va_P D vwCl (wX m_a m_there_a m_now_a m_kinds_a m_targets_a m_predicates_a m_numbers_a m_puts_a m_codes_a m_weights_a m_sets_a m_picks_a m_classes_a m_steps_a m_told_a cI cZ cB cC m_rules m_changes m_mostTries m_tried m_settled m_found m_isCovered m_covered m_toldMany m_there m_now m_kinds m_targets m_predicates m_numbers m_puts m_codes m_weights m_sets m_picks m_classes m_stepsx33 m_told) H → va_D A (wX m_a m_there_a m_now_a m_kinds_a m_targets_a m_predicates_a m_numbers_a m_puts_a m_codes_a m_weights_a m_sets_a m_picks_a m_classes_a m_steps_a m_told_a cI cZ cB cC m_rules m_changes m_mostTries m_tried m_settled m_found m_isCovered m_covered m_toldMany m_there m_now m_kinds m_targets m_predicates m_numbers m_puts m_codes m_weights m_sets m_picks m_classes m_stepsx33 m_told) → va_S A s.heap H locs → lv_has ls 5 [] → W p l e (headSpec wsK5_measure rmK5_measure).room s m ([.ref m_a, .int v1] : List Value).toArray below meth c H locs 0 0 (MQ below (QV D A (wX m_a m_there_a m_now_a m_kinds_a m_targets_a m_predicates_a m_numbers_a m_puts_a m_codes_a m_weights_a m_sets_a m_picks_a m_classes_a m_steps_a m_told_a cI cZ cB cC m_rules m_changes m_mostTries m_tried m_settled m_found m_isCovered m_covered m_toldMany m_there m_now m_kinds m_targets m_predicates m_numbers m_puts m_codes m_weights m_sets m_picks m_classes m_steps_r m_told)) ([.ref m_a, .int v1] : List Value).toArray s 0 0 A) (F0 m 123 ls []) := by
      intro m_stepsx33 H locs ls hm hP hD hS hl
      unfold mK5_measure_A33 at hm
      replace hm := Option.some.inj hm
      subst hm
      exact k_retv hx hb hr hlocks hP hD hS dK5_measure_123
    have lp33 : ∀ (n33 : Nat) (i2l33 : Int32) (m_stepsl33 : Nat → Int32) (H : Heap) (locs : List Loc) (ls : Array Slot), mK5_measure_L33 m_there (mK5_measure_A33) n33 i2l33 m_stepsl33 = some m_steps_r → va_P D vwCl (wX m_a m_there_a m_now_a m_kinds_a m_targets_a m_predicates_a m_numbers_a m_puts_a m_codes_a m_weights_a m_sets_a m_picks_a m_classes_a m_steps_a m_told_a cI cZ cB cC m_rules m_changes m_mostTries m_tried m_settled m_found m_isCovered m_covered m_toldMany m_there m_now m_kinds m_targets m_predicates m_numbers m_puts m_codes m_weights m_sets m_picks m_classes m_stepsl33 m_told) H → va_D A (wX m_a m_there_a m_now_a m_kinds_a m_targets_a m_predicates_a m_numbers_a m_puts_a m_codes_a m_weights_a m_sets_a m_picks_a m_classes_a m_steps_a m_told_a cI cZ cB cC m_rules m_changes m_mostTries m_tried m_settled m_found m_isCovered m_covered m_toldMany m_there m_now m_kinds m_targets m_predicates m_numbers m_puts m_codes m_weights m_sets m_picks m_classes m_stepsl33 m_told) → va_S A s.heap H locs → lv_has ls 5 [(2, .int i2l33), (0, .ref m_a)] → W p l e (headSpec wsK5_measure rmK5_measure).room s m ([.ref m_a, .int v1] : List Value).toArray below meth c H locs 0 0 (MQ below (QV D A (wX m_a m_there_a m_now_a m_kinds_a m_targets_a m_predicates_a m_numbers_a m_puts_a m_codes_a m_weights_a m_sets_a m_picks_a m_classes_a m_steps_a m_told_a cI cZ cB cC m_rules m_changes m_mostTries m_tried m_settled m_found m_isCovered m_covered m_toldMany m_there m_now m_kinds m_targets m_predicates m_numbers m_puts m_codes m_weights m_sets m_picks m_classes m_steps_r m_told)) ([.ref m_a, .int v1] : List Value).toArray s 0 0 A) (F0 m 33 ls []) := by
      intro n33
      induction n33 with
      | zero => intro i2l33 m_stepsl33 H locs ls hm; exact nomatch (show none = _ from hm)
      | succ n33 ih33 =>
        intro i2l33 m_stepsl33 H locs ls hm hP hD hS hl
        replace hm : mK5_measure_B33 m_there (mK5_measure_A33) (mK5_measure_L33 m_there (mK5_measure_A33) n33) i2l33 m_stepsl33 = some m_steps_r := hm
        unfold mK5_measure_B33 at hm
        refine lv_iload_n hx hb dK5_measure_33 rfl (lv_at hl 0 rfl) ?_
        refine lv_bipush (v := 12) hx hb dK5_measure_34 (by decide) ?_
        refine lv_icmp_ge (tgt := 123) hx hb dK5_measure_36 (by decide) (fun hc => ?_) (fun hc => ?_)
        · replace hm := ift hm hc
          exact lx33 m_stepsl33 _ _ _ hm hP hD hS (lv_sub hl [] rfl)
        · replace hm := iff_ hm hc
          refine lv_iconst (v := 0) hx hb dK5_measure_39 (by decide) ?_
          refine lv_istore_n (lv' := [(3, .int 0), (2, .int i2l33), (0, .ref m_a)]) hx hb dK5_measure_40 rfl hl (by decide) rfl (fun ls hl => ?_)
          have lx41 : ∀ (m_stepsx41 : Nat → Int32) (H : Heap) (locs : List Loc) (ls : Array Slot), mK5_measure_A41 i2l33 (mK5_measure_L33 m_there (mK5_measure_A33) n33) m_stepsx41 = some m_steps_r → va_P D vwCl (wX m_a m_there_a m_now_a m_kinds_a m_targets_a m_predicates_a m_numbers_a m_puts_a m_codes_a m_weights_a m_sets_a m_picks_a m_classes_a m_steps_a m_told_a cI cZ cB cC m_rules m_changes m_mostTries m_tried m_settled m_found m_isCovered m_covered m_toldMany m_there m_now m_kinds m_targets m_predicates m_numbers m_puts m_codes m_weights m_sets m_picks m_classes m_stepsx41 m_told) H → va_D A (wX m_a m_there_a m_now_a m_kinds_a m_targets_a m_predicates_a m_numbers_a m_puts_a m_codes_a m_weights_a m_sets_a m_picks_a m_classes_a m_steps_a m_told_a cI cZ cB cC m_rules m_changes m_mostTries m_tried m_settled m_found m_isCovered m_covered m_toldMany m_there m_now m_kinds m_targets m_predicates m_numbers m_puts m_codes m_weights m_sets m_picks m_classes m_stepsx41 m_told) → va_S A s.heap H locs → lv_has ls 5 [(0, .ref m_a), (2, .int i2l33)] → W p l e (headSpec wsK5_measure rmK5_measure).room s m ([.ref m_a, .int v1] : List Value).toArray below meth c H locs 0 0 (MQ below (QV D A (wX m_a m_there_a m_now_a m_kinds_a m_targets_a m_predicates_a m_numbers_a m_puts_a m_codes_a m_weights_a m_sets_a m_picks_a m_classes_a m_steps_a m_told_a cI cZ cB cC m_rules m_changes m_mostTries m_tried m_settled m_found m_isCovered m_covered m_toldMany m_there m_now m_kinds m_targets m_predicates m_numbers m_puts m_codes m_weights m_sets m_picks m_classes m_steps_r m_told)) ([.ref m_a, .int v1] : List Value).toArray s 0 0 A) (F0 m 117 ls []) := by
            intro m_stepsx41 H locs ls hm hP hD hS hl
            unfold mK5_measure_A41 at hm
            obtain ⟨x1, ex1, hm⟩ := bd1_s hm
            refine lv_iinc (v := x1) (lv' := [(2, .int x1), (0, .ref m_a)]) hx hb dK5_measure_117 hl (k := 1) rfl (by rw [← Option.some.inj ex1]; rfl) (by decide) rfl (fun ls hl => ?_)
            refine lv_goto (tgt := 33) hx hb dK5_measure_120 (by decide) ?_
            exact ih33 x1 m_stepsx41 _ _ _ hm hP hD hS (lv_sub hl [0, 1] rfl)
          have lp41 : ∀ (n41 : Nat) (i3l41 : Int32) (m_stepsl41 : Nat → Int32) (H : Heap) (locs : List Loc) (ls : Array Slot), mK5_measure_L41 m_there (mK5_measure_A41 i2l33 (mK5_measure_L33 m_there (mK5_measure_A33) n33)) n41 i3l41 m_stepsl41 = some m_steps_r → va_P D vwCl (wX m_a m_there_a m_now_a m_kinds_a m_targets_a m_predicates_a m_numbers_a m_puts_a m_codes_a m_weights_a m_sets_a m_picks_a m_classes_a m_steps_a m_told_a cI cZ cB cC m_rules m_changes m_mostTries m_tried m_settled m_found m_isCovered m_covered m_toldMany m_there m_now m_kinds m_targets m_predicates m_numbers m_puts m_codes m_weights m_sets m_picks m_classes m_stepsl41 m_told) H → va_D A (wX m_a m_there_a m_now_a m_kinds_a m_targets_a m_predicates_a m_numbers_a m_puts_a m_codes_a m_weights_a m_sets_a m_picks_a m_classes_a m_steps_a m_told_a cI cZ cB cC m_rules m_changes m_mostTries m_tried m_settled m_found m_isCovered m_covered m_toldMany m_there m_now m_kinds m_targets m_predicates m_numbers m_puts m_codes m_weights m_sets m_picks m_classes m_stepsl41 m_told) → va_S A s.heap H locs → lv_has ls 5 [(3, .int i3l41), (2, .int i2l33), (0, .ref m_a)] → W p l e (headSpec wsK5_measure rmK5_measure).room s m ([.ref m_a, .int v1] : List Value).toArray below meth c H locs 0 0 (MQ below (QV D A (wX m_a m_there_a m_now_a m_kinds_a m_targets_a m_predicates_a m_numbers_a m_puts_a m_codes_a m_weights_a m_sets_a m_picks_a m_classes_a m_steps_a m_told_a cI cZ cB cC m_rules m_changes m_mostTries m_tried m_settled m_found m_isCovered m_covered m_toldMany m_there m_now m_kinds m_targets m_predicates m_numbers m_puts m_codes m_weights m_sets m_picks m_classes m_steps_r m_told)) ([.ref m_a, .int v1] : List Value).toArray s 0 0 A) (F0 m 41 ls []) := by
            intro n41
            induction n41 with
            | zero => intro i3l41 m_stepsl41 H locs ls hm; exact nomatch (show none = _ from hm)
            | succ n41 ih41 =>
              intro i3l41 m_stepsl41 H locs ls hm hP hD hS hl
              replace hm : mK5_measure_B41 m_there (mK5_measure_A41 i2l33 (mK5_measure_L33 m_there (mK5_measure_A33) n33)) (mK5_measure_L41 m_there (mK5_measure_A41 i2l33 (mK5_measure_L33 m_there (mK5_measure_A33) n33)) n41) i3l41 m_stepsl41 = some m_steps_r := hm
              unfold mK5_measure_B41 at hm
              refine lv_iload_n hx hb dK5_measure_41 rfl (lv_at hl 0 rfl) ?_
              refine lv_bipush (v := 12) hx hb dK5_measure_42 (by decide) ?_
              refine lv_icmp_ge (tgt := 117) hx hb dK5_measure_44 (by decide) (fun hc => ?_) (fun hc => ?_)
              · replace hm := ift hm hc
                exact lx41 m_stepsl41 _ _ _ hm hP hD hS (lv_sub hl [2, 1] rfl)
              · replace hm := iff_ hm hc
                refine lv_iconst (v := 0) hx hb dK5_measure_47 (by decide) ?_
                refine lv_istore (lv' := [(4, .int 0), (3, .int i3l41), (2, .int i2l33), (0, .ref m_a)]) hx hb dK5_measure_48 hl (by decide) rfl (fun ls hl => ?_)
                have lx50 : ∀ (m_stepsx50 : Nat → Int32) (H : Heap) (locs : List Loc) (ls : Array Slot), mK5_measure_A50 i3l41 (mK5_measure_L41 m_there (mK5_measure_A41 i2l33 (mK5_measure_L33 m_there (mK5_measure_A33) n33)) n41) m_stepsx50 = some m_steps_r → va_P D vwCl (wX m_a m_there_a m_now_a m_kinds_a m_targets_a m_predicates_a m_numbers_a m_puts_a m_codes_a m_weights_a m_sets_a m_picks_a m_classes_a m_steps_a m_told_a cI cZ cB cC m_rules m_changes m_mostTries m_tried m_settled m_found m_isCovered m_covered m_toldMany m_there m_now m_kinds m_targets m_predicates m_numbers m_puts m_codes m_weights m_sets m_picks m_classes m_stepsx50 m_told) H → va_D A (wX m_a m_there_a m_now_a m_kinds_a m_targets_a m_predicates_a m_numbers_a m_puts_a m_codes_a m_weights_a m_sets_a m_picks_a m_classes_a m_steps_a m_told_a cI cZ cB cC m_rules m_changes m_mostTries m_tried m_settled m_found m_isCovered m_covered m_toldMany m_there m_now m_kinds m_targets m_predicates m_numbers m_puts m_codes m_weights m_sets m_picks m_classes m_stepsx50 m_told) → va_S A s.heap H locs → lv_has ls 5 [(0, .ref m_a), (2, .int i2l33), (3, .int i3l41)] → W p l e (headSpec wsK5_measure rmK5_measure).room s m ([.ref m_a, .int v1] : List Value).toArray below meth c H locs 0 0 (MQ below (QV D A (wX m_a m_there_a m_now_a m_kinds_a m_targets_a m_predicates_a m_numbers_a m_puts_a m_codes_a m_weights_a m_sets_a m_picks_a m_classes_a m_steps_a m_told_a cI cZ cB cC m_rules m_changes m_mostTries m_tried m_settled m_found m_isCovered m_covered m_toldMany m_there m_now m_kinds m_targets m_predicates m_numbers m_puts m_codes m_weights m_sets m_picks m_classes m_steps_r m_told)) ([.ref m_a, .int v1] : List Value).toArray s 0 0 A) (F0 m 111 ls []) := by
                  intro m_stepsx50 H locs ls hm hP hD hS hl
                  unfold mK5_measure_A50 at hm
                  obtain ⟨x2, ex2, hm⟩ := bd1_s hm
                  refine lv_iinc (v := x2) (lv' := [(3, .int x2), (0, .ref m_a), (2, .int i2l33)]) hx hb dK5_measure_111 hl (k := 2) rfl (by rw [← Option.some.inj ex2]; rfl) (by decide) rfl (fun ls hl => ?_)
                  refine lv_goto (tgt := 41) hx hb dK5_measure_114 (by decide) ?_
                  exact ih41 x2 m_stepsx50 _ _ _ hm hP hD hS (lv_sub hl [0, 2, 1] rfl)
                have lp50 : ∀ (n50 : Nat) (i4l50 : Int32) (m_stepsl50 : Nat → Int32) (H : Heap) (locs : List Loc) (ls : Array Slot), mK5_measure_L50 m_there i3l41 (mK5_measure_A50 i3l41 (mK5_measure_L41 m_there (mK5_measure_A41 i2l33 (mK5_measure_L33 m_there (mK5_measure_A33) n33)) n41)) n50 i4l50 m_stepsl50 = some m_steps_r → va_P D vwCl (wX m_a m_there_a m_now_a m_kinds_a m_targets_a m_predicates_a m_numbers_a m_puts_a m_codes_a m_weights_a m_sets_a m_picks_a m_classes_a m_steps_a m_told_a cI cZ cB cC m_rules m_changes m_mostTries m_tried m_settled m_found m_isCovered m_covered m_toldMany m_there m_now m_kinds m_targets m_predicates m_numbers m_puts m_codes m_weights m_sets m_picks m_classes m_stepsl50 m_told) H → va_D A (wX m_a m_there_a m_now_a m_kinds_a m_targets_a m_predicates_a m_numbers_a m_puts_a m_codes_a m_weights_a m_sets_a m_picks_a m_classes_a m_steps_a m_told_a cI cZ cB cC m_rules m_changes m_mostTries m_tried m_settled m_found m_isCovered m_covered m_toldMany m_there m_now m_kinds m_targets m_predicates m_numbers m_puts m_codes m_weights m_sets m_picks m_classes m_stepsl50 m_told) → va_S A s.heap H locs → lv_has ls 5 [(4, .int i4l50), (3, .int i3l41), (2, .int i2l33), (0, .ref m_a)] → W p l e (headSpec wsK5_measure rmK5_measure).room s m ([.ref m_a, .int v1] : List Value).toArray below meth c H locs 0 0 (MQ below (QV D A (wX m_a m_there_a m_now_a m_kinds_a m_targets_a m_predicates_a m_numbers_a m_puts_a m_codes_a m_weights_a m_sets_a m_picks_a m_classes_a m_steps_a m_told_a cI cZ cB cC m_rules m_changes m_mostTries m_tried m_settled m_found m_isCovered m_covered m_toldMany m_there m_now m_kinds m_targets m_predicates m_numbers m_puts m_codes m_weights m_sets m_picks m_classes m_steps_r m_told)) ([.ref m_a, .int v1] : List Value).toArray s 0 0 A) (F0 m 50 ls []) := by
                  intro n50
                  induction n50 with
                  | zero => intro i4l50 m_stepsl50 H locs ls hm; exact nomatch (show none = _ from hm)
                  | succ n50 ih50 =>
                    intro i4l50 m_stepsl50 H locs ls hm hP hD hS hl
                    replace hm : mK5_measure_B50 m_there i3l41 (mK5_measure_A50 i3l41 (mK5_measure_L41 m_there (mK5_measure_A41 i2l33 (mK5_measure_L33 m_there (mK5_measure_A33) n33)) n41)) (mK5_measure_L50 m_there i3l41 (mK5_measure_A50 i3l41 (mK5_measure_L41 m_there (mK5_measure_A41 i2l33 (mK5_measure_L33 m_there (mK5_measure_A33) n33)) n41)) n50) i4l50 m_stepsl50 = some m_steps_r := hm
                    unfold mK5_measure_B50 at hm
                    refine lv_iload hx hb dK5_measure_50 (lv_at hl 0 rfl) ?_
                    refine lv_bipush (v := 12) hx hb dK5_measure_52 (by decide) ?_
                    refine lv_icmp_ge (tgt := 111) hx hb dK5_measure_54 (by decide) (fun hc => ?_) (fun hc => ?_)
                    · replace hm := ift hm hc
                      exact lx50 m_stepsl50 _ _ _ hm hP hD hS (lv_sub hl [3, 2, 1] rfl)
                    · replace hm := iff_ hm hc
                      refine lv_aload_n hx hb dK5_measure_57 rfl (lv_at hl 3 rfl) ?_
                      refine va_get (D := D) (ci := 5) (v := .ref m_there_a) (C := RK5) (T := TK5) (N := 23) hx hb hts inK5 hown hK hP 0 rfl rfl 0 (by decide) (hts _ wdt3_186) (fun _ h9 => h9) rfl dK5_measure_58 ?_
                      refine lv_iload_n hx hb dK5_measure_61 rfl (lv_at hl 1 rfl) ?_
                      refine lv_iconst (v := 1) hx hb dK5_measure_62 (by decide) ?_
                      refine lv_iload hx hb dK5_measure_63 (lv_at hl 0 rfl) ?_
                      obtain ⟨x3, ec4, hm⟩ := bd1_s hm
                      have hPc : va_P D vwCl [] H := va_P0
                      have hDc : va_D A [] := va_D0
                      refine k_calli0 (va_runS (As := [.int i3l41, .int 1, .int i4l50]) (rest := [.ref m_there_a]) ⟨hx, hb, hml, hown, hts⟩ (kK5_codeOf l D cI cZ cB cC H.size i3l41 1 i4l50 x3 ec4) (va_cwS 3 hts (gdS wdt4_26 wdt4_27 wdt1_10 gkK5_codeOf) rfl rfl rfl (by decide +kernel) ⟨Nat.le_of_ble_eq_true rfl, Nat.le_of_ble_eq_true rfl⟩) ⟨Pr_blind, fun U hU hW => ⟨rfl, Pr_at hK hN hPc hDc hU hW⟩⟩ rfl rfl hl.1 rfl (lv_room (Nat.le_of_ble_eq_true rfl)) dK5_measure_65 ⟨Nat.le_of_ble_eq_true rfl, Nat.le_of_ble_eq_true rfl⟩) hP hD hS hA (fun H locs hP hD hS => ?_)
                      obtain ⟨x5, ex5, hm⟩ := bd1_s hm
                      obtain ⟨hix5, ex5⟩ := rd_s ex5
                      refine va_zald hx hb hK hP 1 1 rfl rfl hix5 dK5_measure_68 ?_
                      refine topi ex5 ?_
                      refine lv_if_eq (tgt := 105) hx hb dK5_measure_69 (by decide) (fun hc => ?_) (fun hc => ?_)
                      · replace hm := ift hm hc
                        obtain ⟨x6, ex6, hm⟩ := bd1_s hm
                        refine lv_iinc (v := x6) (lv' := [(4, .int x6), (3, .int i3l41), (2, .int i2l33), (0, .ref m_a)]) hx hb dK5_measure_105 hl (k := 0) rfl (by rw [← Option.some.inj ex6]; rfl) (by decide) rfl (fun ls hl => ?_)
                        refine lv_goto (tgt := 50) hx hb dK5_measure_108 (by decide) ?_
                        exact ih50 x6 m_stepsl50 _ _ _ hm hP hD hS (lv_sub hl [0, 1, 2, 3] rfl)
                      · replace hm := iff_ hm hc
                        refine lv_aload_n hx hb dK5_measure_72 rfl (lv_at hl 3 rfl) ?_
                        refine va_get (D := D) (ci := 5) (v := .ref m_steps_a) (C := RK5) (T := TK5) (N := 23) hx hb hts inK5 hown hK hP 0 rfl rfl 20 (by decide) (hts _ wdt3_206) (fun _ h9 => h9) rfl dK5_measure_73 ?_
                        refine lv_iload hx hb dK5_measure_76 (lv_at hl 0 rfl) ?_
                        obtain ⟨x7, ex7, hm⟩ := bd1_s hm
                        obtain ⟨hix7, ex7⟩ := rd_s ex7
                        refine va_iald hx hb hK hP 13 0 rfl rfl hix7 dK5_measure_78 ?_
                        refine topi ex7 ?_
                        refine lv_iconst (v := 1) hx hb dK5_measure_79 (by decide) ?_
                        refine lv_iadd hx hb dK5_measure_80 ?_
                        refine lv_aload_n hx hb dK5_measure_81 rfl (lv_at hl 3 rfl) ?_
                        refine va_get (D := D) (ci := 5) (v := .ref m_steps_a) (C := RK5) (T := TK5) (N := 23) hx hb hts inK5 hown hK hP 0 rfl rfl 20 (by decide) (hts _ wdt3_206) (fun _ h9 => h9) rfl dK5_measure_82 ?_
                        refine lv_iload_n hx hb dK5_measure_85 rfl (lv_at hl 1 rfl) ?_
                        obtain ⟨x8, ex8, hm⟩ := bd1_s hm
                        obtain ⟨hix8, ex8⟩ := rd_s ex8
                        refine va_iald hx hb hK hP 13 0 rfl rfl hix8 dK5_measure_86 ?_
                        refine topi ex8 ?_
                        refine lv_icmp_ge (tgt := 105) hx hb dK5_measure_87 (by decide) (fun hc => ?_) (fun hc => ?_)
                        · replace hm := ift hm hc
                          obtain ⟨x9, ex9, hm⟩ := bd1_s hm
                          refine lv_iinc (v := x9) (lv' := [(4, .int x9), (3, .int i3l41), (2, .int i2l33), (0, .ref m_a)]) hx hb dK5_measure_105 hl (k := 0) rfl (by rw [← Option.some.inj ex9]; rfl) (by decide) rfl (fun ls hl => ?_)
                          refine lv_goto (tgt := 50) hx hb dK5_measure_108 (by decide) ?_
                          exact ih50 x9 m_stepsl50 _ _ _ hm hP hD hS (lv_sub hl [0, 1, 2, 3] rfl)
                        · replace hm := iff_ hm hc
                          refine lv_aload_n hx hb dK5_measure_90 rfl (lv_at hl 3 rfl) ?_
                          refine va_get (D := D) (ci := 5) (v := .ref m_steps_a) (C := RK5) (T := TK5) (N := 23) hx hb hts inK5 hown hK hP 0 rfl rfl 20 (by decide) (hts _ wdt3_206) (fun _ h9 => h9) rfl dK5_measure_91 ?_
                          refine lv_iload_n hx hb dK5_measure_94 rfl (lv_at hl 1 rfl) ?_
                          refine lv_aload_n hx hb dK5_measure_95 rfl (lv_at hl 3 rfl) ?_
                          refine va_get (D := D) (ci := 5) (v := .ref m_steps_a) (C := RK5) (T := TK5) (N := 23) hx hb hts inK5 hown hK hP 0 rfl rfl 20 (by decide) (hts _ wdt3_206) (fun _ h9 => h9) rfl dK5_measure_96 ?_
                          refine lv_iload hx hb dK5_measure_99 (lv_at hl 0 rfl) ?_
                          obtain ⟨x10, ex10, hm⟩ := bd1_s hm
                          obtain ⟨hix10, ex10⟩ := rd_s ex10
                          refine va_iald hx hb hK hP 13 0 rfl rfl hix10 dK5_measure_101 ?_
                          refine topi ex10 ?_
                          refine lv_iconst (v := 1) hx hb dK5_measure_102 (by decide) ?_
                          refine lv_iadd hx hb dK5_measure_103 ?_
                          obtain ⟨x11, ex11, hm⟩ := bd1_s hm
                          obtain ⟨hix11, ex11⟩ := wrt_s ex11
                          refine va_iast hx hb hK hP hD hS 13 0 rfl rfl hix11 dK5_measure_104 (fun H locs hP hD hS => ?_)
                          rw [ex11] at hP hD
                          have hP : va_P D vwCl (wX m_a m_there_a m_now_a m_kinds_a m_targets_a m_predicates_a m_numbers_a m_puts_a m_codes_a m_weights_a m_sets_a m_picks_a m_classes_a m_steps_a m_told_a cI cZ cB cC m_rules m_changes m_mostTries m_tried m_settled m_found m_isCovered m_covered m_toldMany m_there m_now m_kinds m_targets m_predicates m_numbers m_puts m_codes m_weights m_sets m_picks m_classes x11 m_told) H := hP
                          have hD : va_D A (wX m_a m_there_a m_now_a m_kinds_a m_targets_a m_predicates_a m_numbers_a m_puts_a m_codes_a m_weights_a m_sets_a m_picks_a m_classes_a m_steps_a m_told_a cI cZ cB cC m_rules m_changes m_mostTries m_tried m_settled m_found m_isCovered m_covered m_toldMany m_there m_now m_kinds m_targets m_predicates m_numbers m_puts m_codes m_weights m_sets m_picks m_classes x11 m_told) := hD
                          obtain ⟨x12, ex12, hm⟩ := bd1_s hm
                          refine lv_iinc (v := x12) (lv' := [(4, .int x12), (3, .int i3l41), (2, .int i2l33), (0, .ref m_a)]) hx hb dK5_measure_105 hl (k := 0) rfl (by rw [← Option.some.inj ex12]; rfl) (by decide) rfl (fun ls hl => ?_)
                          refine lv_goto (tgt := 50) hx hb dK5_measure_108 (by decide) ?_
                          exact ih50 x12 x11 _ _ _ hm hP hD hS (lv_sub hl [0, 1, 2, 3] rfl)
                exact lp50 5000 0 m_stepsl41 _ _ _ hm hP hD hS (lv_sub hl [0, 1, 2, 3] rfl)
          exact lp41 5000 0 m_stepsl33 _ _ _ hm hP hD hS (lv_sub hl [0, 1, 2] rfl)
    exact lp33 5000 0 m_stepsx2 _ _ _ hm hP hD hS (lv_sub hl [0, 1] rfl)
  have lp2 : ∀ (n2 : Nat) (i2l2 : Int32) (m_stepsl2 : Nat → Int32) (H : Heap) (locs : List Loc) (ls : Array Slot), mK5_measure_L2 v1 (mK5_measure_A2 m_there) n2 i2l2 m_stepsl2 = some m_steps_r → va_P D vwCl (wX m_a m_there_a m_now_a m_kinds_a m_targets_a m_predicates_a m_numbers_a m_puts_a m_codes_a m_weights_a m_sets_a m_picks_a m_classes_a m_steps_a m_told_a cI cZ cB cC m_rules m_changes m_mostTries m_tried m_settled m_found m_isCovered m_covered m_toldMany m_there m_now m_kinds m_targets m_predicates m_numbers m_puts m_codes m_weights m_sets m_picks m_classes m_stepsl2 m_told) H → va_D A (wX m_a m_there_a m_now_a m_kinds_a m_targets_a m_predicates_a m_numbers_a m_puts_a m_codes_a m_weights_a m_sets_a m_picks_a m_classes_a m_steps_a m_told_a cI cZ cB cC m_rules m_changes m_mostTries m_tried m_settled m_found m_isCovered m_covered m_toldMany m_there m_now m_kinds m_targets m_predicates m_numbers m_puts m_codes m_weights m_sets m_picks m_classes m_stepsl2 m_told) → va_S A s.heap H locs → lv_has ls 5 [(2, .int i2l2), (0, .ref m_a), (1, .int v1)] → W p l e (headSpec wsK5_measure rmK5_measure).room s m ([.ref m_a, .int v1] : List Value).toArray below meth c H locs 0 0 (MQ below (QV D A (wX m_a m_there_a m_now_a m_kinds_a m_targets_a m_predicates_a m_numbers_a m_puts_a m_codes_a m_weights_a m_sets_a m_picks_a m_classes_a m_steps_a m_told_a cI cZ cB cC m_rules m_changes m_mostTries m_tried m_settled m_found m_isCovered m_covered m_toldMany m_there m_now m_kinds m_targets m_predicates m_numbers m_puts m_codes m_weights m_sets m_picks m_classes m_steps_r m_told)) ([.ref m_a, .int v1] : List Value).toArray s 0 0 A) (F0 m 2 ls []) := by
    intro n2
    induction n2 with
    | zero => intro i2l2 m_stepsl2 H locs ls hm; exact nomatch (show none = _ from hm)
    | succ n2 ih2 =>
      intro i2l2 m_stepsl2 H locs ls hm hP hD hS hl
      replace hm : mK5_measure_B2 v1 (mK5_measure_A2 m_there) (mK5_measure_L2 v1 (mK5_measure_A2 m_there) n2) i2l2 m_stepsl2 = some m_steps_r := hm
      unfold mK5_measure_B2 at hm
      refine lv_iload_n hx hb dK5_measure_2 rfl (lv_at hl 0 rfl) ?_
      refine lv_bipush (v := 12) hx hb dK5_measure_3 (by decide) ?_
      refine lv_icmp_ge (tgt := 31) hx hb dK5_measure_5 (by decide) (fun hc => ?_) (fun hc => ?_)
      · replace hm := ift hm hc
        exact lx2 m_stepsl2 _ _ _ hm hP hD hS (lv_sub hl [1] rfl)
      · replace hm := iff_ hm hc
        refine lv_aload_n hx hb dK5_measure_8 rfl (lv_at hl 1 rfl) ?_
        refine va_get (D := D) (ci := 5) (v := .ref m_steps_a) (C := RK5) (T := TK5) (N := 23) hx hb hts inK5 hown hK hP 0 rfl rfl 20 (by decide) (hts _ wdt3_206) (fun _ h9 => h9) rfl dK5_measure_9 ?_
        refine lv_iload_n hx hb dK5_measure_12 rfl (lv_at hl 0 rfl) ?_
        refine lv_iload_n hx hb dK5_measure_13 rfl (lv_at hl 0 rfl) ?_
        refine lv_iload_n hx hb dK5_measure_14 rfl (lv_at hl 2 rfl) ?_
        refine lv_icmp_ne (tgt := 22) hx hb dK5_measure_15 (by decide) (fun hc => ?_) (fun hc => ?_)
        · replace hm := iff_ hm hc
          refine lv_bipush (v := 99) hx hb dK5_measure_22 (by decide) ?_
          obtain ⟨x13, ex13, hm⟩ := bd1_s hm
          obtain ⟨hix13, ex13⟩ := wrt_s ex13
          refine va_iast hx hb hK hP hD hS 13 0 rfl rfl hix13 dK5_measure_24 (fun H locs hP hD hS => ?_)
          rw [ex13] at hP hD
          have hP : va_P D vwCl (wX m_a m_there_a m_now_a m_kinds_a m_targets_a m_predicates_a m_numbers_a m_puts_a m_codes_a m_weights_a m_sets_a m_picks_a m_classes_a m_steps_a m_told_a cI cZ cB cC m_rules m_changes m_mostTries m_tried m_settled m_found m_isCovered m_covered m_toldMany m_there m_now m_kinds m_targets m_predicates m_numbers m_puts m_codes m_weights m_sets m_picks m_classes x13 m_told) H := hP
          have hD : va_D A (wX m_a m_there_a m_now_a m_kinds_a m_targets_a m_predicates_a m_numbers_a m_puts_a m_codes_a m_weights_a m_sets_a m_picks_a m_classes_a m_steps_a m_told_a cI cZ cB cC m_rules m_changes m_mostTries m_tried m_settled m_found m_isCovered m_covered m_toldMany m_there m_now m_kinds m_targets m_predicates m_numbers m_puts m_codes m_weights m_sets m_picks m_classes x13 m_told) := hD
          obtain ⟨x14, ex14, hm⟩ := bd1_s hm
          refine lv_iinc (v := x14) (lv' := [(2, .int x14), (0, .ref m_a), (1, .int v1)]) hx hb dK5_measure_25 hl (k := 0) rfl (by rw [← Option.some.inj ex14]; rfl) (by decide) rfl (fun ls hl => ?_)
          refine lv_goto (tgt := 2) hx hb dK5_measure_28 (by decide) ?_
          exact ih2 x14 x13 _ _ _ hm hP hD hS (lv_sub hl [0, 1, 2] rfl)
        · replace hm := ift hm hc
          refine lv_iconst (v := 0) hx hb dK5_measure_18 (by decide) ?_
          refine lv_goto (tgt := 24) hx hb dK5_measure_19 (by decide) ?_
          obtain ⟨x15, ex15, hm⟩ := bd1_s hm
          obtain ⟨hix15, ex15⟩ := wrt_s ex15
          refine va_iast hx hb hK hP hD hS 13 0 rfl rfl hix15 dK5_measure_24 (fun H locs hP hD hS => ?_)
          rw [ex15] at hP hD
          have hP : va_P D vwCl (wX m_a m_there_a m_now_a m_kinds_a m_targets_a m_predicates_a m_numbers_a m_puts_a m_codes_a m_weights_a m_sets_a m_picks_a m_classes_a m_steps_a m_told_a cI cZ cB cC m_rules m_changes m_mostTries m_tried m_settled m_found m_isCovered m_covered m_toldMany m_there m_now m_kinds m_targets m_predicates m_numbers m_puts m_codes m_weights m_sets m_picks m_classes x15 m_told) H := hP
          have hD : va_D A (wX m_a m_there_a m_now_a m_kinds_a m_targets_a m_predicates_a m_numbers_a m_puts_a m_codes_a m_weights_a m_sets_a m_picks_a m_classes_a m_steps_a m_told_a cI cZ cB cC m_rules m_changes m_mostTries m_tried m_settled m_found m_isCovered m_covered m_toldMany m_there m_now m_kinds m_targets m_predicates m_numbers m_puts m_codes m_weights m_sets m_picks m_classes x15 m_told) := hD
          obtain ⟨x16, ex16, hm⟩ := bd1_s hm
          refine lv_iinc (v := x16) (lv' := [(2, .int x16), (0, .ref m_a), (1, .int v1)]) hx hb dK5_measure_25 hl (k := 0) rfl (by rw [← Option.some.inj ex16]; rfl) (by decide) rfl (fun ls hl => ?_)
          refine lv_goto (tgt := 2) hx hb dK5_measure_28 (by decide) ?_
          exact ih2 x16 x15 _ _ _ hm hP hD hS (lv_sub hl [0, 1, 2] rfl)
  exact lp2 5000 0 m_steps _ _ _ hm hP hD hS (lv_sub hl [0, 1, 2] rfl)
