def mK5_apply_A23 (m_rules : Int32) (m_kinds : Nat → Int32) (m_targets : Nat → Int32) (m_predicates : Nat → Int32) (m_numbers : Nat → Int32) (m_classes : Nat → Int32) (x4 : Nat → Int32) (m_therex23 : Nat → Int32) : Option (Int32 × Int32 × (Nat → Int32) × (Nat → Int32) × (Nat → Int32)) :=
  bd2 (mK5_resultsNow m_rules x4 m_kinds m_targets m_predicates m_numbers m_classes) fun x6 x7 => some (x6, 0, m_therex23, x4, x7)
def mK5_apply_B23 (x4 : Nat → Int32) (kx23 : (Nat → Int32) → (Option (Int32 × Int32 × (Nat → Int32) × (Nat → Int32) × (Nat → Int32)))) (rc23 : Int32 → (Nat → Int32) → (Option (Int32 × Int32 × (Nat → Int32) × (Nat → Int32) × (Nat → Int32)))) (i2l23 : Int32) (m_therel23 : Nat → Int32) : Option (Int32 × Int32 × (Nat → Int32) × (Nat → Int32) × (Nat → Int32)) :=
  if 864 ≤ i2l23 then
  (kx23 m_therel23)
  else
  (bd1 (rd x4 864 i2l23) fun x9 => bd1 (wrt m_therel23 864 i2l23 (vp_nar .boolean x9)) fun x10 => bd1 (some (i2l23 + 1)) fun x11 => rc23 x11 x10)
def mK5_apply_L23 (x4 : Nat → Int32) (kx23 : (Nat → Int32) → (Option (Int32 × Int32 × (Nat → Int32) × (Nat → Int32) × (Nat → Int32)))) : Nat → Int32 → (Nat → Int32) → (Option (Int32 × Int32 × (Nat → Int32) × (Nat → Int32) × (Nat → Int32)))
  | 0, _, _ => none
  | n + 1, i2l23, m_therel23 => mK5_apply_B23 x4 kx23 (mK5_apply_L23 x4 kx23 n) i2l23 m_therel23
def mK5_apply (m_rules : Int32) (m_changes : Int32) (m_found : Int32) (m_there : Nat → Int32) (m_now : Nat → Int32) (m_kinds : Nat → Int32) (m_targets : Nat → Int32) (m_predicates : Nat → Int32) (m_numbers : Nat → Int32) (m_puts : Nat → Int32) (m_codes : Nat → Int32) (m_sets : Nat → Int32) (m_classes : Nat → Int32) (v1 : Int32) : Option (Int32 × Int32 × (Nat → Int32) × (Nat → Int32) × (Nat → Int32)) :=
  bd1 (mK5_isFound m_found v1) fun x1 => if x1 = 0 then
  (some ((-2), m_found, m_there, m_now, m_classes))
  else
  (bd1 (rd m_sets 31 v1) fun x3 => bd1 (mK5_begin m_changes m_there m_now m_puts m_codes x3) fun x4 => mK5_apply_L23 x4 (mK5_apply_A23 m_rules m_kinds m_targets m_predicates m_numbers m_classes x4) 5000 0 m_there)
abbrev rmK5_apply : Room := { frames := 5, cells := 0, slots := 0, locals := 120 }
set_option maxHeartbeats 4000000 in
set_option maxRecDepth 100000 in
theorem kK5_apply (l : Launch) (D : va_G) (cI cZ cB cC : ClassId) (sz : Nat) (m_a : Nat) (m_there_a : Nat) (m_now_a : Nat) (m_kinds_a : Nat) (m_targets_a : Nat) (m_predicates_a : Nat) (m_numbers_a : Nat) (m_puts_a : Nat) (m_codes_a : Nat) (m_weights_a : Nat) (m_sets_a : Nat) (m_picks_a : Nat) (m_classes_a : Nat) (m_steps_a : Nat) (m_told_a : Nat) (m_rules : Int32) (m_changes : Int32) (m_mostTries : Int32) (m_tried : Int32) (m_settled : Int32) (m_found : Int32) (m_isCovered : Int32) (m_covered : Int32) (m_toldMany : Int32) (m_there : Nat → Int32) (m_now : Nat → Int32) (m_kinds : Nat → Int32) (m_targets : Nat → Int32) (m_predicates : Nat → Int32) (m_numbers : Nat → Int32) (m_puts : Nat → Int32) (m_codes : Nat → Int32) (m_weights : Nat → Int32) (m_sets : Nat → Int32) (m_picks : Nat → Int32) (m_classes : Nat → Int32) (m_steps : Nat → Int32) (m_told : Nat → Int32) (v1 : Int32) (r0 : Int32) (m_found_r : Int32) (m_there_r : Nat → Int32) (m_now_r : Nat → Int32) (m_classes_r : Nat → Int32) (hm : mK5_apply m_rules m_changes m_found m_there m_now m_kinds m_targets m_predicates m_numbers m_puts m_codes m_sets m_classes v1 = some (r0, m_found_r, m_there_r, m_now_r, m_classes_r)) : Met l yK5_apply wsK5_apply rmK5_apply (va_Pc [.ref m_a, .int v1] (Pr D (tyL cI cZ cB cC) sz (wX m_a m_there_a m_now_a m_kinds_a m_targets_a m_predicates_a m_numbers_a m_puts_a m_codes_a m_weights_a m_sets_a m_picks_a m_classes_a m_steps_a m_told_a cI cZ cB cC m_rules m_changes m_mostTries m_tried m_settled m_found m_isCovered m_covered m_toldMany m_there m_now m_kinds m_targets m_predicates m_numbers m_puts m_codes m_weights m_sets m_picks m_classes m_steps m_told))) (QI D (va_A (wX m_a m_there_a m_now_a m_kinds_a m_targets_a m_predicates_a m_numbers_a m_puts_a m_codes_a m_weights_a m_sets_a m_picks_a m_classes_a m_steps_a m_told_a cI cZ cB cC m_rules m_changes m_mostTries m_tried m_settled m_found m_isCovered m_covered m_toldMany m_there m_now m_kinds m_targets m_predicates m_numbers m_puts m_codes m_weights m_sets m_picks m_classes m_steps m_told) sz) r0 (wX m_a m_there_a m_now_a m_kinds_a m_targets_a m_predicates_a m_numbers_a m_puts_a m_codes_a m_weights_a m_sets_a m_picks_a m_classes_a m_steps_a m_told_a cI cZ cB cC m_rules m_changes m_mostTries m_tried m_settled m_found_r m_isCovered m_covered m_toldMany m_there_r m_now_r m_kinds m_targets m_predicates m_numbers m_puts m_codes m_weights m_sets m_picks m_classes_r m_steps m_told)) 0 0 (va_A (wX m_a m_there_a m_now_a m_kinds_a m_targets_a m_predicates_a m_numbers_a m_puts_a m_codes_a m_weights_a m_sets_a m_picks_a m_classes_a m_steps_a m_told_a cI cZ cB cC m_rules m_changes m_mostTries m_tried m_settled m_found m_isCovered m_covered m_toldMany m_there m_now m_kinds m_targets m_predicates m_numbers m_puts m_codes m_weights m_sets m_picks m_classes m_steps m_told) sz) := by
  refine Met.ofW (cc := cK5_apply) (maxL := 3) (ret := (some .int)) (by decide) rfl ?_
  intro p e s m args below meth c s₁ B hml hv
  obtain ⟨rfl, hsz, hP, hK, hD0, hN⟩ := hv
  have hx := B.exec
  have hb := B.bytes
  have hr := B.returns
  have hts := htsA (atoms_spec (ws := wsK5_apply) B.pre)
  have hown : s.vm.findClass RK5 = some m.cls := findClass_of_methodNamed B.named
  have hlocks := B.notSynchronized
  subst hsz
  have hD := hD0.self (sz := s.heap.size)
  generalize hAe : va_A (wX m_a m_there_a m_now_a m_kinds_a m_targets_a m_predicates_a m_numbers_a m_puts_a m_codes_a m_weights_a m_sets_a m_picks_a m_classes_a m_steps_a m_told_a cI cZ cB cC m_rules m_changes m_mostTries m_tried m_settled m_found m_isCovered m_covered m_toldMany m_there m_now m_kinds m_targets m_predicates m_numbers m_puts m_codes m_weights m_sets m_picks m_classes m_steps m_told) s.heap.size = A at hD ⊢
  have hA : ∀ q : Nat, s.heap.size ≤ q → A q := fun q h => by rw [← hAe]; exact Or.inr h
  refine kstart (A := A) hP (fun H hP hS => ?_)
  have hl := lv_entry ([.ref m_a, .int v1]) (n := 3) (Nat.le_of_ble_eq_true rfl)
  rw [lg_entry_eq]
  generalize (lg_sl ([.ref m_a, .int v1]) ++ List.replicate (3 - (lg_sl ([.ref m_a, .int v1])).length) Slot.unset).toArray = ls at hl ⊢
  have hl : lv_has ls 3 [(0, .ref m_a), (1, .int v1)] := hl
  unfold mK5_apply at hm
  refine lv_aload_n hx hb dK5_apply_0 rfl (lv_at hl 0 rfl) ?_
  refine lv_iload_n hx hb dK5_apply_1 rfl (lv_at hl 1 rfl) ?_
  obtain ⟨x1, ec2, hm⟩ := bd1_s hm
  have hPc := hP.sub (ws' := (wX m_a m_there_a m_now_a m_kinds_a m_targets_a m_predicates_a m_numbers_a m_puts_a m_codes_a m_weights_a m_sets_a m_picks_a m_classes_a m_steps_a m_told_a cI cZ cB cC m_rules m_changes m_mostTries m_tried m_settled m_found m_isCovered m_covered m_toldMany m_there m_now m_kinds m_targets m_predicates m_numbers m_puts m_codes m_weights m_sets m_picks m_classes m_steps m_told)) [0, 1, 2, 3, 4, 5, 6, 7, 8, 9, 10, 11, 12, 13, 14] rfl
  have hDc := hD.sub (ws' := (wX m_a m_there_a m_now_a m_kinds_a m_targets_a m_predicates_a m_numbers_a m_puts_a m_codes_a m_weights_a m_sets_a m_picks_a m_classes_a m_steps_a m_told_a cI cZ cB cC m_rules m_changes m_mostTries m_tried m_settled m_found m_isCovered m_covered m_toldMany m_there m_now m_kinds m_targets m_predicates m_numbers m_puts m_codes m_weights m_sets m_picks m_classes m_steps m_told)) [0, 1, 2, 3, 4, 5, 6, 7, 8, 9, 10, 11, 12, 13, 14] (by decide) rfl
  refine k_calli (wr := []) (w1 := (wX m_a m_there_a m_now_a m_kinds_a m_targets_a m_predicates_a m_numbers_a m_puts_a m_codes_a m_weights_a m_sets_a m_picks_a m_classes_a m_steps_a m_told_a cI cZ cB cC m_rules m_changes m_mostTries m_tried m_settled m_found m_isCovered m_covered m_toldMany m_there m_now m_kinds m_targets m_predicates m_numbers m_puts m_codes m_weights m_sets m_picks m_classes m_steps m_told)) (ws' := (wX m_a m_there_a m_now_a m_kinds_a m_targets_a m_predicates_a m_numbers_a m_puts_a m_codes_a m_weights_a m_sets_a m_picks_a m_classes_a m_steps_a m_told_a cI cZ cB cC m_rules m_changes m_mostTries m_tried m_settled m_found m_isCovered m_covered m_toldMany m_there m_now m_kinds m_targets m_predicates m_numbers m_puts m_codes m_weights m_sets m_picks m_classes m_steps m_told)) (va_runV (As := [.int v1]) (rest := []) ⟨hx, hb, hml, hown, hts⟩ (kK5_isFound l D cI cZ cB cC H.size m_a m_there_a m_now_a m_kinds_a m_targets_a m_predicates_a m_numbers_a m_puts_a m_codes_a m_weights_a m_sets_a m_picks_a m_classes_a m_steps_a m_told_a m_rules m_changes m_mostTries m_tried m_settled m_found m_isCovered m_covered m_toldMany m_there m_now m_kinds m_targets m_predicates m_numbers m_puts m_codes m_weights m_sets m_picks m_classes m_steps m_told v1 x1 ec2) (cwV 1 hts (gdV wdt4_164 wdt4_166 wds2_14 wdt1_10 gkK5_isFound) rfl rfl rfl (by decide +kernel) ⟨Nat.le_of_ble_eq_true rfl, Nat.le_of_ble_eq_true rfl⟩) ⟨Pr_blind, va_recv hK hPc (ci := 5) (q0 := 0) rfl rfl, fun U hU hW => ⟨rfl, Pr_at hK hN hPc hDc hU hW⟩⟩ rfl rfl hl.1 rfl (lv_room (Nat.le_of_ble_eq_true rfl)) dK5_apply_2 ⟨Nat.le_of_ble_eq_true rfl, Nat.le_of_ble_eq_true rfl⟩) hP hD hS hA [0, 1, 2, 3, 4, 5, 6, 7, 8, 9, 10, 11, 12, 13, 14] [] [0, 1, 2, 3, 4, 5, 6, 7, 8, 9, 10, 11, 12, 13, 14] rfl rfl (by decide) (by decide) (by decide) rfl (fun H locs hP hD hS => ?_)
  refine lv_if_ne (tgt := 11) hx hb dK5_apply_5 (by decide) (fun hc => ?_) (fun hc => ?_)
  · replace hm := iff_ hm hc
    refine lv_aload_n hx hb dK5_apply_11 rfl (lv_at hl 0 rfl) ?_
    refine lv_aload_n hx hb dK5_apply_12 rfl (lv_at hl 0 rfl) ?_
    refine va_get (D := D) (ci := 5) (v := .ref m_sets_a) (C := RK5) (T := TK5) (N := 23) hx hb hts inK5 hown hK hP 0 rfl rfl 15 (by decide) (hts _ wdt3_201) (fun _ h9 => h9) rfl dK5_apply_13 ?_
    refine lv_iload_n hx hb dK5_apply_16 rfl (lv_at hl 1 rfl) ?_
    obtain ⟨x3, ex3, hm⟩ := bd1_s hm
    obtain ⟨hix3, ex3⟩ := rd_s ex3
    refine va_iald hx hb hK hP 10 0 rfl rfl hix3 dK5_apply_17 ?_
    refine topi ex3 ?_
    obtain ⟨x4, ec5, hm⟩ := bd1_s hm
    have hPc := hP.sub (ws' := (wX m_a m_there_a m_now_a m_kinds_a m_targets_a m_predicates_a m_numbers_a m_puts_a m_codes_a m_weights_a m_sets_a m_picks_a m_classes_a m_steps_a m_told_a cI cZ cB cC m_rules m_changes m_mostTries m_tried m_settled m_found m_isCovered m_covered m_toldMany m_there m_now m_kinds m_targets m_predicates m_numbers m_puts m_codes m_weights m_sets m_picks m_classes m_steps m_told)) [0, 1, 2, 3, 4, 5, 6, 7, 8, 9, 10, 11, 12, 13, 14] rfl
    have hDc := hD.sub (ws' := (wX m_a m_there_a m_now_a m_kinds_a m_targets_a m_predicates_a m_numbers_a m_puts_a m_codes_a m_weights_a m_sets_a m_picks_a m_classes_a m_steps_a m_told_a cI cZ cB cC m_rules m_changes m_mostTries m_tried m_settled m_found m_isCovered m_covered m_toldMany m_there m_now m_kinds m_targets m_predicates m_numbers m_puts m_codes m_weights m_sets m_picks m_classes m_steps m_told)) [0, 1, 2, 3, 4, 5, 6, 7, 8, 9, 10, 11, 12, 13, 14] (by decide) rfl
    refine k_callv (wr := []) (w1 := (wX m_a m_there_a m_now_a m_kinds_a m_targets_a m_predicates_a m_numbers_a m_puts_a m_codes_a m_weights_a m_sets_a m_picks_a m_classes_a m_steps_a m_told_a cI cZ cB cC m_rules m_changes m_mostTries m_tried m_settled m_found m_isCovered m_covered m_toldMany m_there x4 m_kinds m_targets m_predicates m_numbers m_puts m_codes m_weights m_sets m_picks m_classes m_steps m_told)) (ws' := (wX m_a m_there_a m_now_a m_kinds_a m_targets_a m_predicates_a m_numbers_a m_puts_a m_codes_a m_weights_a m_sets_a m_picks_a m_classes_a m_steps_a m_told_a cI cZ cB cC m_rules m_changes m_mostTries m_tried m_settled m_found m_isCovered m_covered m_toldMany m_there x4 m_kinds m_targets m_predicates m_numbers m_puts m_codes m_weights m_sets m_picks m_classes m_steps m_told)) (va_runV (As := [.int x3]) (rest := []) ⟨hx, hb, hml, hown, hts⟩ (kK5_begin l D cI cZ cB cC H.size m_a m_there_a m_now_a m_kinds_a m_targets_a m_predicates_a m_numbers_a m_puts_a m_codes_a m_weights_a m_sets_a m_picks_a m_classes_a m_steps_a m_told_a m_rules m_changes m_mostTries m_tried m_settled m_found m_isCovered m_covered m_toldMany m_there m_now m_kinds m_targets m_predicates m_numbers m_puts m_codes m_weights m_sets m_picks m_classes m_steps m_told x3 x4 ec5) (cwV 1 hts (gdV wdt4_41 wdt4_43 wds1_12 wdt1_10 gkK5_begin) rfl rfl rfl (by decide +kernel) ⟨Nat.le_of_ble_eq_true rfl, Nat.le_of_ble_eq_true rfl⟩) ⟨Pr_blind, va_recv hK hPc (ci := 5) (q0 := 0) rfl rfl, fun U hU hW => ⟨rfl, Pr_at hK hN hPc hDc hU hW⟩⟩ rfl rfl hl.1 rfl (lv_room (Nat.le_of_ble_eq_true rfl)) dK5_apply_18 ⟨Nat.le_of_ble_eq_true rfl, Nat.le_of_ble_eq_true rfl⟩) hP hD hS hA [0, 1, 2, 3, 4, 5, 6, 7, 8, 9, 10, 11, 12, 13, 14] [] [0, 1, 2, 3, 4, 5, 6, 7, 8, 9, 10, 11, 12, 13, 14] rfl rfl (by decide) (by decide) (by decide) rfl (fun H locs hP hD hS => ?_)
    refine lv_iconst (v := 0) hx hb dK5_apply_21 (by decide) ?_
    refine lv_istore_n (lv' := [(2, .int 0), (0, .ref m_a), (1, .int v1)]) hx hb dK5_apply_22 rfl hl (by decide) rfl (fun ls hl => ?_)
    have lx23 : ∀ (m_therex23 : Nat → Int32) (H : Heap) (locs : List Loc) (ls : Array Slot), mK5_apply_A23 m_rules m_kinds m_targets m_predicates m_numbers m_classes x4 m_therex23 = some (r0, m_found_r, m_there_r, m_now_r, m_classes_r) → va_P D vwCl (wX m_a m_there_a m_now_a m_kinds_a m_targets_a m_predicates_a m_numbers_a m_puts_a m_codes_a m_weights_a m_sets_a m_picks_a m_classes_a m_steps_a m_told_a cI cZ cB cC m_rules m_changes m_mostTries m_tried m_settled m_found m_isCovered m_covered m_toldMany m_therex23 x4 m_kinds m_targets m_predicates m_numbers m_puts m_codes m_weights m_sets m_picks m_classes m_steps m_told) H → va_D A (wX m_a m_there_a m_now_a m_kinds_a m_targets_a m_predicates_a m_numbers_a m_puts_a m_codes_a m_weights_a m_sets_a m_picks_a m_classes_a m_steps_a m_told_a cI cZ cB cC m_rules m_changes m_mostTries m_tried m_settled m_found m_isCovered m_covered m_toldMany m_therex23 x4 m_kinds m_targets m_predicates m_numbers m_puts m_codes m_weights m_sets m_picks m_classes m_steps m_told) → va_S A s.heap H locs → lv_has ls 3 [(0, .ref m_a)] → W p l e (headSpec wsK5_apply rmK5_apply).room s m ([.ref m_a, .int v1] : List Value).toArray below meth c H locs 0 0 (MQ below (QI D A r0 (wX m_a m_there_a m_now_a m_kinds_a m_targets_a m_predicates_a m_numbers_a m_puts_a m_codes_a m_weights_a m_sets_a m_picks_a m_classes_a m_steps_a m_told_a cI cZ cB cC m_rules m_changes m_mostTries m_tried m_settled m_found_r m_isCovered m_covered m_toldMany m_there_r m_now_r m_kinds m_targets m_predicates m_numbers m_puts m_codes m_weights m_sets m_picks m_classes_r m_steps m_told)) ([.ref m_a, .int v1] : List Value).toArray s 0 0 A) (F0 m 48 ls []) := by
      intro m_therex23 H locs ls hm hP hD hS hl
      unfold mK5_apply_A23 at hm
      refine lv_aload_n hx hb dK5_apply_48 rfl (lv_at hl 0 rfl) ?_
      refine lv_iconst (v := 0) hx hb dK5_apply_49 (by decide) ?_
      refine va_put (D := D) (ci := 5) (v := .int 0) (ty := .int) (C := RK5) (T := TK5) (N := 23) hx hb hts inK5 tyK5 tyK5_ok nmK5 hown hK hP hD hS 0 rfl rfl 14 (by decide) (hts _ wdt3_200) (fun _ h9 => h9) rfl (by decide +kernel) rfl rfl (Nat.le_of_ble_eq_true rfl) dK5_apply_50 (fun H locs hP hD hS => ?_)
      have hP : va_P D vwCl (wX m_a m_there_a m_now_a m_kinds_a m_targets_a m_predicates_a m_numbers_a m_puts_a m_codes_a m_weights_a m_sets_a m_picks_a m_classes_a m_steps_a m_told_a cI cZ cB cC m_rules m_changes m_mostTries m_tried m_settled 0 m_isCovered m_covered m_toldMany m_therex23 x4 m_kinds m_targets m_predicates m_numbers m_puts m_codes m_weights m_sets m_picks m_classes m_steps m_told) H := hP
      have hD : va_D A (wX m_a m_there_a m_now_a m_kinds_a m_targets_a m_predicates_a m_numbers_a m_puts_a m_codes_a m_weights_a m_sets_a m_picks_a m_classes_a m_steps_a m_told_a cI cZ cB cC m_rules m_changes m_mostTries m_tried m_settled 0 m_isCovered m_covered m_toldMany m_therex23 x4 m_kinds m_targets m_predicates m_numbers m_puts m_codes m_weights m_sets m_picks m_classes m_steps m_told) := hD
      refine lv_aload_n hx hb dK5_apply_53 rfl (lv_at hl 0 rfl) ?_
      obtain ⟨x6, x7, ec8, hm⟩ := bd2_s hm
      have hPc := hP.sub (ws' := (wX m_a m_there_a m_now_a m_kinds_a m_targets_a m_predicates_a m_numbers_a m_puts_a m_codes_a m_weights_a m_sets_a m_picks_a m_classes_a m_steps_a m_told_a cI cZ cB cC m_rules m_changes m_mostTries m_tried m_settled 0 m_isCovered m_covered m_toldMany m_therex23 x4 m_kinds m_targets m_predicates m_numbers m_puts m_codes m_weights m_sets m_picks m_classes m_steps m_told)) [0, 1, 2, 3, 4, 5, 6, 7, 8, 9, 10, 11, 12, 13, 14] rfl
      have hDc := hD.sub (ws' := (wX m_a m_there_a m_now_a m_kinds_a m_targets_a m_predicates_a m_numbers_a m_puts_a m_codes_a m_weights_a m_sets_a m_picks_a m_classes_a m_steps_a m_told_a cI cZ cB cC m_rules m_changes m_mostTries m_tried m_settled 0 m_isCovered m_covered m_toldMany m_therex23 x4 m_kinds m_targets m_predicates m_numbers m_puts m_codes m_weights m_sets m_picks m_classes m_steps m_told)) [0, 1, 2, 3, 4, 5, 6, 7, 8, 9, 10, 11, 12, 13, 14] (by decide) rfl
      refine k_calli (wr := []) (w1 := (wX m_a m_there_a m_now_a m_kinds_a m_targets_a m_predicates_a m_numbers_a m_puts_a m_codes_a m_weights_a m_sets_a m_picks_a m_classes_a m_steps_a m_told_a cI cZ cB cC m_rules m_changes m_mostTries m_tried m_settled 0 m_isCovered m_covered m_toldMany m_therex23 x4 m_kinds m_targets m_predicates m_numbers m_puts m_codes m_weights m_sets m_picks x7 m_steps m_told)) (ws' := (wX m_a m_there_a m_now_a m_kinds_a m_targets_a m_predicates_a m_numbers_a m_puts_a m_codes_a m_weights_a m_sets_a m_picks_a m_classes_a m_steps_a m_told_a cI cZ cB cC m_rules m_changes m_mostTries m_tried m_settled 0 m_isCovered m_covered m_toldMany m_therex23 x4 m_kinds m_targets m_predicates m_numbers m_puts m_codes m_weights m_sets m_picks x7 m_steps m_told)) (va_runV (As := []) (rest := []) ⟨hx, hb, hml, hown, hts⟩ (kK5_resultsNow l D cI cZ cB cC H.size m_a m_there_a m_now_a m_kinds_a m_targets_a m_predicates_a m_numbers_a m_puts_a m_codes_a m_weights_a m_sets_a m_picks_a m_classes_a m_steps_a m_told_a m_rules m_changes m_mostTries m_tried m_settled 0 m_isCovered m_covered m_toldMany m_therex23 x4 m_kinds m_targets m_predicates m_numbers m_puts m_codes m_weights m_sets m_picks m_classes m_steps m_told x6 x7 ec8) (cwV 0 hts (gdV wdt4_45 wdt4_47 wds1_13 wdt1_10 gkK5_resultsNow) rfl rfl rfl (by decide +kernel) ⟨Nat.le_of_ble_eq_true rfl, Nat.le_of_ble_eq_true rfl⟩) ⟨Pr_blind, va_recv hK hPc (ci := 5) (q0 := 0) rfl rfl, fun U hU hW => ⟨rfl, Pr_at hK hN hPc hDc hU hW⟩⟩ rfl rfl hl.1 rfl (lv_room (Nat.le_of_ble_eq_true rfl)) dK5_apply_54 ⟨Nat.le_of_ble_eq_true rfl, Nat.le_of_ble_eq_true rfl⟩) hP hD hS hA [0, 1, 2, 3, 4, 5, 6, 7, 8, 9, 10, 11, 12, 13, 14] [] [0, 1, 2, 3, 4, 5, 6, 7, 8, 9, 10, 11, 12, 13, 14] rfl rfl (by decide) (by decide) (by decide) rfl (fun H locs hP hD hS => ?_)
      replace hm := Option.some.inj hm
      simp only [Prod.mk.injEq] at hm
      obtain ⟨rfl, rfl, rfl, rfl, rfl⟩ := hm
      exact k_reti hx hb hr hlocks hP hD hS dK5_apply_57
    have lp23 : ∀ (n23 : Nat) (i2l23 : Int32) (m_therel23 : Nat → Int32) (H : Heap) (locs : List Loc) (ls : Array Slot), mK5_apply_L23 x4 (mK5_apply_A23 m_rules m_kinds m_targets m_predicates m_numbers m_classes x4) n23 i2l23 m_therel23 = some (r0, m_found_r, m_there_r, m_now_r, m_classes_r) → va_P D vwCl (wX m_a m_there_a m_now_a m_kinds_a m_targets_a m_predicates_a m_numbers_a m_puts_a m_codes_a m_weights_a m_sets_a m_picks_a m_classes_a m_steps_a m_told_a cI cZ cB cC m_rules m_changes m_mostTries m_tried m_settled m_found m_isCovered m_covered m_toldMany m_therel23 x4 m_kinds m_targets m_predicates m_numbers m_puts m_codes m_weights m_sets m_picks m_classes m_steps m_told) H → va_D A (wX m_a m_there_a m_now_a m_kinds_a m_targets_a m_predicates_a m_numbers_a m_puts_a m_codes_a m_weights_a m_sets_a m_picks_a m_classes_a m_steps_a m_told_a cI cZ cB cC m_rules m_changes m_mostTries m_tried m_settled m_found m_isCovered m_covered m_toldMany m_therel23 x4 m_kinds m_targets m_predicates m_numbers m_puts m_codes m_weights m_sets m_picks m_classes m_steps m_told) → va_S A s.heap H locs → lv_has ls 3 [(2, .int i2l23), (0, .ref m_a)] → W p l e (headSpec wsK5_apply rmK5_apply).room s m ([.ref m_a, .int v1] : List Value).toArray below meth c H locs 0 0 (MQ below (QI D A r0 (wX m_a m_there_a m_now_a m_kinds_a m_targets_a m_predicates_a m_numbers_a m_puts_a m_codes_a m_weights_a m_sets_a m_picks_a m_classes_a m_steps_a m_told_a cI cZ cB cC m_rules m_changes m_mostTries m_tried m_settled m_found_r m_isCovered m_covered m_toldMany m_there_r m_now_r m_kinds m_targets m_predicates m_numbers m_puts m_codes m_weights m_sets m_picks m_classes_r m_steps m_told)) ([.ref m_a, .int v1] : List Value).toArray s 0 0 A) (F0 m 23 ls []) := by
      intro n23
      induction n23 with
      | zero => intro i2l23 m_therel23 H locs ls hm; exact nomatch (show none = _ from hm)
      | succ n23 ih23 =>
        intro i2l23 m_therel23 H locs ls hm hP hD hS hl
        replace hm : mK5_apply_B23 x4 (mK5_apply_A23 m_rules m_kinds m_targets m_predicates m_numbers m_classes x4) (mK5_apply_L23 x4 (mK5_apply_A23 m_rules m_kinds m_targets m_predicates m_numbers m_classes x4) n23) i2l23 m_therel23 = some (r0, m_found_r, m_there_r, m_now_r, m_classes_r) := hm
        unfold mK5_apply_B23 at hm
        refine lv_iload_n hx hb dK5_apply_23 rfl (lv_at hl 0 rfl) ?_
        refine lv_sipush (v := 864) hx hb dK5_apply_24 (by decide) ?_
        refine lv_icmp_ge (tgt := 48) hx hb dK5_apply_27 (by decide) (fun hc => ?_) (fun hc => ?_)
        · replace hm := ift hm hc
          exact lx23 m_therel23 _ _ _ hm hP hD hS (lv_sub hl [1] rfl)
        · replace hm := iff_ hm hc
          refine lv_aload_n hx hb dK5_apply_30 rfl (lv_at hl 1 rfl) ?_
          refine va_get (D := D) (ci := 5) (v := .ref m_there_a) (C := RK5) (T := TK5) (N := 23) hx hb hts inK5 hown hK hP 0 rfl rfl 0 (by decide) (hts _ wdt3_186) (fun _ h9 => h9) rfl dK5_apply_31 ?_
          refine lv_iload_n hx hb dK5_apply_34 rfl (lv_at hl 0 rfl) ?_
          refine lv_aload_n hx hb dK5_apply_35 rfl (lv_at hl 1 rfl) ?_
          refine va_get (D := D) (ci := 5) (v := .ref m_now_a) (C := RK5) (T := TK5) (N := 23) hx hb hts inK5 hown hK hP 0 rfl rfl 1 (by decide) (hts _ wdt3_187) (fun _ h9 => h9) rfl dK5_apply_36 ?_
          refine lv_iload_n hx hb dK5_apply_39 rfl (lv_at hl 0 rfl) ?_
          obtain ⟨x9, ex9, hm⟩ := bd1_s hm
          obtain ⟨hix9, ex9⟩ := rd_s ex9
          refine va_zald hx hb hK hP 2 1 rfl rfl hix9 dK5_apply_40 ?_
          refine topi ex9 ?_
          obtain ⟨x10, ex10, hm⟩ := bd1_s hm
          obtain ⟨hix10, ex10⟩ := wrt_s ex10
          refine va_zast hx hb hK hP hD hS 1 1 rfl rfl hix10 dK5_apply_41 (fun H locs hP hD hS => ?_)
          rw [ex10] at hP hD
          have hP : va_P D vwCl (wX m_a m_there_a m_now_a m_kinds_a m_targets_a m_predicates_a m_numbers_a m_puts_a m_codes_a m_weights_a m_sets_a m_picks_a m_classes_a m_steps_a m_told_a cI cZ cB cC m_rules m_changes m_mostTries m_tried m_settled m_found m_isCovered m_covered m_toldMany x10 x4 m_kinds m_targets m_predicates m_numbers m_puts m_codes m_weights m_sets m_picks m_classes m_steps m_told) H := hP
          have hD : va_D A (wX m_a m_there_a m_now_a m_kinds_a m_targets_a m_predicates_a m_numbers_a m_puts_a m_codes_a m_weights_a m_sets_a m_picks_a m_classes_a m_steps_a m_told_a cI cZ cB cC m_rules m_changes m_mostTries m_tried m_settled m_found m_isCovered m_covered m_toldMany x10 x4 m_kinds m_targets m_predicates m_numbers m_puts m_codes m_weights m_sets m_picks m_classes m_steps m_told) := hD
          obtain ⟨x11, ex11, hm⟩ := bd1_s hm
          refine lv_iinc (v := x11) (lv' := [(2, .int x11), (0, .ref m_a)]) hx hb dK5_apply_42 hl (k := 0) rfl (by rw [← Option.some.inj ex11]; rfl) (by decide) rfl (fun ls hl => ?_)
          refine lv_goto (tgt := 23) hx hb dK5_apply_45 (by decide) ?_
          exact ih23 x11 x10 _ _ _ hm hP hD hS (lv_sub hl [0, 1] rfl)
    exact lp23 5000 0 m_there _ _ _ hm hP hD hS (lv_sub hl [0, 1] rfl)
  · replace hm := ift hm hc
    refine lv_bipush (v := (-2)) hx hb dK5_apply_8 (by decide) ?_
    replace hm := Option.some.inj hm
    simp only [Prod.mk.injEq] at hm
    obtain ⟨rfl, rfl, rfl, rfl, rfl⟩ := hm
    exact k_reti hx hb hr hlocks hP hD hS dK5_apply_10
def mK5_covered (m_isCovered : Int32) (m_covered : Int32) (v1 : Int32) : Option (Int32) :=
  if m_isCovered = 0 then
  (some ((-2)))
  else
  (bd1 (mK5_member m_covered v1) fun x1 => some x1)
abbrev rmK5_covered : Room := { frames := 1, cells := 0, slots := 0, locals := 23 }
set_option maxHeartbeats 4000000 in
set_option maxRecDepth 100000 in
theorem kK5_covered (l : Launch) (D : va_G) (cI cZ cB cC : ClassId) (sz : Nat) (m_a : Nat) (m_there_a : Nat) (m_now_a : Nat) (m_kinds_a : Nat) (m_targets_a : Nat) (m_predicates_a : Nat) (m_numbers_a : Nat) (m_puts_a : Nat) (m_codes_a : Nat) (m_weights_a : Nat) (m_sets_a : Nat) (m_picks_a : Nat) (m_classes_a : Nat) (m_steps_a : Nat) (m_told_a : Nat) (m_rules : Int32) (m_changes : Int32) (m_mostTries : Int32) (m_tried : Int32) (m_settled : Int32) (m_found : Int32) (m_isCovered : Int32) (m_covered : Int32) (m_toldMany : Int32) (m_there : Nat → Int32) (m_now : Nat → Int32) (m_kinds : Nat → Int32) (m_targets : Nat → Int32) (m_predicates : Nat → Int32) (m_numbers : Nat → Int32) (m_puts : Nat → Int32) (m_codes : Nat → Int32) (m_weights : Nat → Int32) (m_sets : Nat → Int32) (m_picks : Nat → Int32) (m_classes : Nat → Int32) (m_steps : Nat → Int32) (m_told : Nat → Int32) (v1 : Int32) (r0 : Int32) (hm : mK5_covered m_isCovered m_covered v1 = some r0) : Met l yK5_covered wsK5_covered rmK5_covered (va_Pc [.ref m_a, .int v1] (Pr D (tyL cI cZ cB cC) sz (wX m_a m_there_a m_now_a m_kinds_a m_targets_a m_predicates_a m_numbers_a m_puts_a m_codes_a m_weights_a m_sets_a m_picks_a m_classes_a m_steps_a m_told_a cI cZ cB cC m_rules m_changes m_mostTries m_tried m_settled m_found m_isCovered m_covered m_toldMany m_there m_now m_kinds m_targets m_predicates m_numbers m_puts m_codes m_weights m_sets m_picks m_classes m_steps m_told))) (QI D (va_A (wX m_a m_there_a m_now_a m_kinds_a m_targets_a m_predicates_a m_numbers_a m_puts_a m_codes_a m_weights_a m_sets_a m_picks_a m_classes_a m_steps_a m_told_a cI cZ cB cC m_rules m_changes m_mostTries m_tried m_settled m_found m_isCovered m_covered m_toldMany m_there m_now m_kinds m_targets m_predicates m_numbers m_puts m_codes m_weights m_sets m_picks m_classes m_steps m_told) sz) r0 (wX m_a m_there_a m_now_a m_kinds_a m_targets_a m_predicates_a m_numbers_a m_puts_a m_codes_a m_weights_a m_sets_a m_picks_a m_classes_a m_steps_a m_told_a cI cZ cB cC m_rules m_changes m_mostTries m_tried m_settled m_found m_isCovered m_covered m_toldMany m_there m_now m_kinds m_targets m_predicates m_numbers m_puts m_codes m_weights m_sets m_picks m_classes m_steps m_told)) 0 0 (va_A (wX m_a m_there_a m_now_a m_kinds_a m_targets_a m_predicates_a m_numbers_a m_puts_a m_codes_a m_weights_a m_sets_a m_picks_a m_classes_a m_steps_a m_told_a cI cZ cB cC m_rules m_changes m_mostTries m_tried m_settled m_found m_isCovered m_covered m_toldMany m_there m_now m_kinds m_targets m_predicates m_numbers m_puts m_codes m_weights m_sets m_picks m_classes m_steps m_told) sz) := by
  refine Met.ofW (cc := cK5_covered) (maxL := 2) (ret := (some .int)) (by decide) rfl ?_
  intro p e s m args below meth c s₁ B hml hv
  obtain ⟨rfl, hsz, hP, hK, hD0, hN⟩ := hv
  have hx := B.exec
  have hb := B.bytes
  have hr := B.returns
  have hts := htsA (atoms_spec (ws := wsK5_covered) B.pre)
  have hown : s.vm.findClass RK5 = some m.cls := findClass_of_methodNamed B.named
  have hlocks := B.notSynchronized
  subst hsz
  have hD := hD0.self (sz := s.heap.size)
  generalize hAe : va_A (wX m_a m_there_a m_now_a m_kinds_a m_targets_a m_predicates_a m_numbers_a m_puts_a m_codes_a m_weights_a m_sets_a m_picks_a m_classes_a m_steps_a m_told_a cI cZ cB cC m_rules m_changes m_mostTries m_tried m_settled m_found m_isCovered m_covered m_toldMany m_there m_now m_kinds m_targets m_predicates m_numbers m_puts m_codes m_weights m_sets m_picks m_classes m_steps m_told) s.heap.size = A at hD ⊢
  have hA : ∀ q : Nat, s.heap.size ≤ q → A q := fun q h => by rw [← hAe]; exact Or.inr h
  refine kstart (A := A) hP (fun H hP hS => ?_)
  have hl := lv_entry ([.ref m_a, .int v1]) (n := 2) (Nat.le_of_ble_eq_true rfl)
  rw [lg_entry_eq]
  generalize (lg_sl ([.ref m_a, .int v1]) ++ List.replicate (2 - (lg_sl ([.ref m_a, .int v1])).length) Slot.unset).toArray = ls at hl ⊢
  have hl : lv_has ls 2 [(0, .ref m_a), (1, .int v1)] := hl
  unfold mK5_covered at hm
  refine lv_aload_n hx hb dK5_covered_0 rfl (lv_at hl 0 rfl) ?_
  refine va_get (D := D) (ci := 5) (v := .int m_isCovered) (C := RK5) (T := TK5) (N := 23) hx hb hts inK5 hown hK hP 0 rfl rfl 16 (by decide) (hts _ wdt3_202) (fun _ h9 => h9) rfl dK5_covered_1 ?_
  refine lv_if_eq (tgt := 18) hx hb dK5_covered_4 (by decide) (fun hc => ?_) (fun hc => ?_)
  · replace hm := ift hm hc
    refine lv_bipush (v := (-2)) hx hb dK5_covered_18 (by decide) ?_
    replace hm := Option.some.inj hm
    subst hm
    exact k_reti hx hb hr hlocks hP hD hS dK5_covered_20
  · replace hm := iff_ hm hc
    refine lv_aload_n hx hb dK5_covered_7 rfl (lv_at hl 0 rfl) ?_
    refine va_get (D := D) (ci := 5) (v := .int m_covered) (C := RK5) (T := TK5) (N := 23) hx hb hts inK5 hown hK hP 0 rfl rfl 17 (by decide) (hts _ wdt3_203) (fun _ h9 => h9) rfl dK5_covered_8 ?_
    refine lv_iload_n hx hb dK5_covered_11 rfl (lv_at hl 1 rfl) ?_
    obtain ⟨x1, ec2, hm⟩ := bd1_s hm
    have hPc : va_P D vwCl [] H := va_P0
    have hDc : va_D A [] := va_D0
    refine k_calli0 (va_runS (As := [.int m_covered, .int v1]) (rest := []) ⟨hx, hb, hml, hown, hts⟩ (kK5_member l D cI cZ cB cC H.size m_covered v1 x1 ec2) (va_cwS 2 hts (gdS wdt4_168 wdt4_169 wdt1_10 gkK5_member) rfl rfl rfl (by decide +kernel) ⟨Nat.le_of_ble_eq_true rfl, Nat.le_of_ble_eq_true rfl⟩) ⟨Pr_blind, fun U hU hW => ⟨rfl, Pr_at hK hN hPc hDc hU hW⟩⟩ rfl rfl hl.1 rfl (lv_room (Nat.le_of_ble_eq_true rfl)) dK5_covered_12 ⟨Nat.le_of_ble_eq_true rfl, Nat.le_of_ble_eq_true rfl⟩) hP hD hS hA (fun H locs hP hD hS => ?_)
    refine lv_goto (tgt := 20) hx hb dK5_covered_15 (by decide) ?_
    replace hm := Option.some.inj hm
    subst hm
    exact k_reti hx hb hr hlocks hP hD hS dK5_covered_20
def mK5_tell (m_toldMany : Int32) (m_told : Nat → Int32) (v1 : Int32) : Option (Int32 × (Nat → Int32)) :=
  bd1 (wrt m_told 400 m_toldMany v1) fun x1 => bd1 (some (m_toldMany + 1)) fun x2 => some (x2, x1)
abbrev rmK5_tell : Room := { frames := 0, cells := 0, slots := 0, locals := 0 }
set_option maxHeartbeats 4000000 in
set_option maxRecDepth 100000 in
theorem kK5_tell (l : Launch) (D : va_G) (cI cZ cB cC : ClassId) (sz : Nat) (m_a : Nat) (m_there_a : Nat) (m_now_a : Nat) (m_kinds_a : Nat) (m_targets_a : Nat) (m_predicates_a : Nat) (m_numbers_a : Nat) (m_puts_a : Nat) (m_codes_a : Nat) (m_weights_a : Nat) (m_sets_a : Nat) (m_picks_a : Nat) (m_classes_a : Nat) (m_steps_a : Nat) (m_told_a : Nat) (m_rules : Int32) (m_changes : Int32) (m_mostTries : Int32) (m_tried : Int32) (m_settled : Int32) (m_found : Int32) (m_isCovered : Int32) (m_covered : Int32) (m_toldMany : Int32) (m_there : Nat → Int32) (m_now : Nat → Int32) (m_kinds : Nat → Int32) (m_targets : Nat → Int32) (m_predicates : Nat → Int32) (m_numbers : Nat → Int32) (m_puts : Nat → Int32) (m_codes : Nat → Int32) (m_weights : Nat → Int32) (m_sets : Nat → Int32) (m_picks : Nat → Int32) (m_classes : Nat → Int32) (m_steps : Nat → Int32) (m_told : Nat → Int32) (v1 : Int32) (m_toldMany_r : Int32) (m_told_r : Nat → Int32) (hm : mK5_tell m_toldMany m_told v1 = some (m_toldMany_r, m_told_r)) : Met l yK5_tell wsK5_tell rmK5_tell (va_Pc [.ref m_a, .int v1] (Pr D (tyL cI cZ cB cC) sz (wX m_a m_there_a m_now_a m_kinds_a m_targets_a m_predicates_a m_numbers_a m_puts_a m_codes_a m_weights_a m_sets_a m_picks_a m_classes_a m_steps_a m_told_a cI cZ cB cC m_rules m_changes m_mostTries m_tried m_settled m_found m_isCovered m_covered m_toldMany m_there m_now m_kinds m_targets m_predicates m_numbers m_puts m_codes m_weights m_sets m_picks m_classes m_steps m_told))) (QV D (va_A (wX m_a m_there_a m_now_a m_kinds_a m_targets_a m_predicates_a m_numbers_a m_puts_a m_codes_a m_weights_a m_sets_a m_picks_a m_classes_a m_steps_a m_told_a cI cZ cB cC m_rules m_changes m_mostTries m_tried m_settled m_found m_isCovered m_covered m_toldMany m_there m_now m_kinds m_targets m_predicates m_numbers m_puts m_codes m_weights m_sets m_picks m_classes m_steps m_told) sz) (wX m_a m_there_a m_now_a m_kinds_a m_targets_a m_predicates_a m_numbers_a m_puts_a m_codes_a m_weights_a m_sets_a m_picks_a m_classes_a m_steps_a m_told_a cI cZ cB cC m_rules m_changes m_mostTries m_tried m_settled m_found m_isCovered m_covered m_toldMany_r m_there m_now m_kinds m_targets m_predicates m_numbers m_puts m_codes m_weights m_sets m_picks m_classes m_steps m_told_r)) 0 0 (va_A (wX m_a m_there_a m_now_a m_kinds_a m_targets_a m_predicates_a m_numbers_a m_puts_a m_codes_a m_weights_a m_sets_a m_picks_a m_classes_a m_steps_a m_told_a cI cZ cB cC m_rules m_changes m_mostTries m_tried m_settled m_found m_isCovered m_covered m_toldMany m_there m_now m_kinds m_targets m_predicates m_numbers m_puts m_codes m_weights m_sets m_picks m_classes m_steps m_told) sz) := by
  refine Met.ofW (cc := cK5_tell) (maxL := 2) (ret := none) (by decide) rfl ?_
  intro p e s m args below meth c s₁ B hml hv
  obtain ⟨rfl, hsz, hP, hK, hD0, hN⟩ := hv
  have hx := B.exec
  have hb := B.bytes
  have hr := B.returns
  have hts := htsA (atoms_spec (ws := wsK5_tell) B.pre)
  have hown : s.vm.findClass RK5 = some m.cls := findClass_of_methodNamed B.named
  have hlocks := B.notSynchronized
  subst hsz
  have hD := hD0.self (sz := s.heap.size)
  generalize hAe : va_A (wX m_a m_there_a m_now_a m_kinds_a m_targets_a m_predicates_a m_numbers_a m_puts_a m_codes_a m_weights_a m_sets_a m_picks_a m_classes_a m_steps_a m_told_a cI cZ cB cC m_rules m_changes m_mostTries m_tried m_settled m_found m_isCovered m_covered m_toldMany m_there m_now m_kinds m_targets m_predicates m_numbers m_puts m_codes m_weights m_sets m_picks m_classes m_steps m_told) s.heap.size = A at hD ⊢
  have hA : ∀ q : Nat, s.heap.size ≤ q → A q := fun q h => by rw [← hAe]; exact Or.inr h
  refine kstart (A := A) hP (fun H hP hS => ?_)
  have hl := lv_entry ([.ref m_a, .int v1]) (n := 2) (Nat.le_of_ble_eq_true rfl)
  rw [lg_entry_eq]
  generalize (lg_sl ([.ref m_a, .int v1]) ++ List.replicate (2 - (lg_sl ([.ref m_a, .int v1])).length) Slot.unset).toArray = ls at hl ⊢
  have hl : lv_has ls 2 [(0, .ref m_a), (1, .int v1)] := hl
  unfold mK5_tell at hm
  refine lv_aload_n hx hb dK5_tell_0 rfl (lv_at hl 0 rfl) ?_
  refine va_get (D := D) (ci := 5) (v := .ref m_told_a) (C := RK5) (T := TK5) (N := 23) hx hb hts inK5 hown hK hP 0 rfl rfl 21 (by decide) (hts _ wdt3_207) (fun _ h9 => h9) rfl dK5_tell_1 ?_
  refine lv_aload_n hx hb dK5_tell_4 rfl (lv_at hl 0 rfl) ?_
  refine va_get (D := D) (ci := 5) (v := .int m_toldMany) (C := RK5) (T := TK5) (N := 23) hx hb hts inK5 hown hK hP 0 rfl rfl 22 (by decide) (hts _ wdt3_208) (fun _ h9 => h9) rfl dK5_tell_5 ?_
  refine lv_iload_n hx hb dK5_tell_8 rfl (lv_at hl 1 rfl) ?_
  obtain ⟨x1, ex1, hm⟩ := bd1_s hm
  obtain ⟨hix1, ex1⟩ := wrt_s ex1
  refine va_iast hx hb hK hP hD hS 14 0 rfl rfl hix1 dK5_tell_9 (fun H locs hP hD hS => ?_)
  rw [ex1] at hP hD
  have hP : va_P D vwCl (wX m_a m_there_a m_now_a m_kinds_a m_targets_a m_predicates_a m_numbers_a m_puts_a m_codes_a m_weights_a m_sets_a m_picks_a m_classes_a m_steps_a m_told_a cI cZ cB cC m_rules m_changes m_mostTries m_tried m_settled m_found m_isCovered m_covered m_toldMany m_there m_now m_kinds m_targets m_predicates m_numbers m_puts m_codes m_weights m_sets m_picks m_classes m_steps x1) H := hP
  have hD : va_D A (wX m_a m_there_a m_now_a m_kinds_a m_targets_a m_predicates_a m_numbers_a m_puts_a m_codes_a m_weights_a m_sets_a m_picks_a m_classes_a m_steps_a m_told_a cI cZ cB cC m_rules m_changes m_mostTries m_tried m_settled m_found m_isCovered m_covered m_toldMany m_there m_now m_kinds m_targets m_predicates m_numbers m_puts m_codes m_weights m_sets m_picks m_classes m_steps x1) := hD
  refine lv_aload_n hx hb dK5_tell_10 rfl (lv_at hl 0 rfl) ?_
  refine lv_dup hx hb dK5_tell_11 rfl ?_
  refine va_get (D := D) (ci := 5) (v := .int m_toldMany) (C := RK5) (T := TK5) (N := 23) hx hb hts inK5 hown hK hP 0 rfl rfl 22 (by decide) (hts _ wdt3_208) (fun _ h9 => h9) rfl dK5_tell_12 ?_
  refine lv_iconst (v := 1) hx hb dK5_tell_15 (by decide) ?_
  refine lv_iadd hx hb dK5_tell_16 ?_
  obtain ⟨x2, ex2, hm⟩ := bd1_s hm
  refine topi (Option.some.inj ex2) ?_
  refine va_put (D := D) (ci := 5) (v := .int x2) (ty := .int) (C := RK5) (T := TK5) (N := 23) hx hb hts inK5 tyK5 tyK5_ok nmK5 hown hK hP hD hS 0 rfl rfl 22 (by decide) (hts _ wdt3_208) (fun _ h9 => h9) rfl (by decide +kernel) rfl rfl (Nat.le_of_ble_eq_true rfl) dK5_tell_17 (fun H locs hP hD hS => ?_)
  have hP : va_P D vwCl (wX m_a m_there_a m_now_a m_kinds_a m_targets_a m_predicates_a m_numbers_a m_puts_a m_codes_a m_weights_a m_sets_a m_picks_a m_classes_a m_steps_a m_told_a cI cZ cB cC m_rules m_changes m_mostTries m_tried m_settled m_found m_isCovered m_covered x2 m_there m_now m_kinds m_targets m_predicates m_numbers m_puts m_codes m_weights m_sets m_picks m_classes m_steps x1) H := hP
  have hD : va_D A (wX m_a m_there_a m_now_a m_kinds_a m_targets_a m_predicates_a m_numbers_a m_puts_a m_codes_a m_weights_a m_sets_a m_picks_a m_classes_a m_steps_a m_told_a cI cZ cB cC m_rules m_changes m_mostTries m_tried m_settled m_found m_isCovered m_covered x2 m_there m_now m_kinds m_targets m_predicates m_numbers m_puts m_codes m_weights m_sets m_picks m_classes m_steps x1) := hD
  replace hm := Option.some.inj hm
  simp only [Prod.mk.injEq] at hm
  obtain ⟨rfl, rfl⟩ := hm
  exact k_retv hx hb hr hlocks hP hD hS dK5_tell_20
def mK5_tellNumber (m_toldMany : Int32) (m_told : Nat → Int32) (v1 : Int32) : Option (Int32 × (Nat → Int32)) :=
  bd2 (mK5_tell m_toldMany m_told 32) fun x1 x2 => if v1 ≤ 9 then
  (bd2 (mK5_tell x1 x2 (48 + (v1 - v1 / 10 * 10))) fun x4 x5 => some (x4, x5))
  else
  (bd2 (mK5_tell x1 x2 (48 + (v1 / 10))) fun x7 x8 => bd2 (mK5_tell x7 x8 (48 + (v1 - v1 / 10 * 10))) fun x10 x11 => some (x10, x11))
abbrev rmK5_tellNumber : Room := { frames := 1, cells := 0, slots := 0, locals := 21 }
set_option maxHeartbeats 4000000 in
set_option maxRecDepth 100000 in
theorem kK5_tellNumber (l : Launch) (D : va_G) (cI cZ cB cC : ClassId) (sz : Nat) (m_a : Nat) (m_there_a : Nat) (m_now_a : Nat) (m_kinds_a : Nat) (m_targets_a : Nat) (m_predicates_a : Nat) (m_numbers_a : Nat) (m_puts_a : Nat) (m_codes_a : Nat) (m_weights_a : Nat) (m_sets_a : Nat) (m_picks_a : Nat) (m_classes_a : Nat) (m_steps_a : Nat) (m_told_a : Nat) (m_rules : Int32) (m_changes : Int32) (m_mostTries : Int32) (m_tried : Int32) (m_settled : Int32) (m_found : Int32) (m_isCovered : Int32) (m_covered : Int32) (m_toldMany : Int32) (m_there : Nat → Int32) (m_now : Nat → Int32) (m_kinds : Nat → Int32) (m_targets : Nat → Int32) (m_predicates : Nat → Int32) (m_numbers : Nat → Int32) (m_puts : Nat → Int32) (m_codes : Nat → Int32) (m_weights : Nat → Int32) (m_sets : Nat → Int32) (m_picks : Nat → Int32) (m_classes : Nat → Int32) (m_steps : Nat → Int32) (m_told : Nat → Int32) (v1 : Int32) (m_toldMany_r : Int32) (m_told_r : Nat → Int32) (hm : mK5_tellNumber m_toldMany m_told v1 = some (m_toldMany_r, m_told_r)) : Met l yK5_tellNumber wsK5_tellNumber rmK5_tellNumber (va_Pc [.ref m_a, .int v1] (Pr D (tyL cI cZ cB cC) sz (wX m_a m_there_a m_now_a m_kinds_a m_targets_a m_predicates_a m_numbers_a m_puts_a m_codes_a m_weights_a m_sets_a m_picks_a m_classes_a m_steps_a m_told_a cI cZ cB cC m_rules m_changes m_mostTries m_tried m_settled m_found m_isCovered m_covered m_toldMany m_there m_now m_kinds m_targets m_predicates m_numbers m_puts m_codes m_weights m_sets m_picks m_classes m_steps m_told))) (QV D (va_A (wX m_a m_there_a m_now_a m_kinds_a m_targets_a m_predicates_a m_numbers_a m_puts_a m_codes_a m_weights_a m_sets_a m_picks_a m_classes_a m_steps_a m_told_a cI cZ cB cC m_rules m_changes m_mostTries m_tried m_settled m_found m_isCovered m_covered m_toldMany m_there m_now m_kinds m_targets m_predicates m_numbers m_puts m_codes m_weights m_sets m_picks m_classes m_steps m_told) sz) (wX m_a m_there_a m_now_a m_kinds_a m_targets_a m_predicates_a m_numbers_a m_puts_a m_codes_a m_weights_a m_sets_a m_picks_a m_classes_a m_steps_a m_told_a cI cZ cB cC m_rules m_changes m_mostTries m_tried m_settled m_found m_isCovered m_covered m_toldMany_r m_there m_now m_kinds m_targets m_predicates m_numbers m_puts m_codes m_weights m_sets m_picks m_classes m_steps m_told_r)) 0 0 (va_A (wX m_a m_there_a m_now_a m_kinds_a m_targets_a m_predicates_a m_numbers_a m_puts_a m_codes_a m_weights_a m_sets_a m_picks_a m_classes_a m_steps_a m_told_a cI cZ cB cC m_rules m_changes m_mostTries m_tried m_settled m_found m_isCovered m_covered m_toldMany m_there m_now m_kinds m_targets m_predicates m_numbers m_puts m_codes m_weights m_sets m_picks m_classes m_steps m_told) sz) := by
  refine Met.ofW (cc := cK5_tellNumber) (maxL := 2) (ret := none) (by decide) rfl ?_
  intro p e s m args below meth c s₁ B hml hv
  obtain ⟨rfl, hsz, hP, hK, hD0, hN⟩ := hv
  have hx := B.exec
  have hb := B.bytes
  have hr := B.returns
  have hts := htsA (atoms_spec (ws := wsK5_tellNumber) B.pre)
  have hown : s.vm.findClass RK5 = some m.cls := findClass_of_methodNamed B.named
  have hlocks := B.notSynchronized
  subst hsz
  have hD := hD0.self (sz := s.heap.size)
  generalize hAe : va_A (wX m_a m_there_a m_now_a m_kinds_a m_targets_a m_predicates_a m_numbers_a m_puts_a m_codes_a m_weights_a m_sets_a m_picks_a m_classes_a m_steps_a m_told_a cI cZ cB cC m_rules m_changes m_mostTries m_tried m_settled m_found m_isCovered m_covered m_toldMany m_there m_now m_kinds m_targets m_predicates m_numbers m_puts m_codes m_weights m_sets m_picks m_classes m_steps m_told) s.heap.size = A at hD ⊢
  have hA : ∀ q : Nat, s.heap.size ≤ q → A q := fun q h => by rw [← hAe]; exact Or.inr h
  refine kstart (A := A) hP (fun H hP hS => ?_)
  have hl := lv_entry ([.ref m_a, .int v1]) (n := 2) (Nat.le_of_ble_eq_true rfl)
  rw [lg_entry_eq]
  generalize (lg_sl ([.ref m_a, .int v1]) ++ List.replicate (2 - (lg_sl ([.ref m_a, .int v1])).length) Slot.unset).toArray = ls at hl ⊢
  have hl : lv_has ls 2 [(0, .ref m_a), (1, .int v1)] := hl
  unfold mK5_tellNumber at hm
  refine lv_aload_n hx hb dK5_tellNumber_0 rfl (lv_at hl 0 rfl) ?_
  refine lv_bipush (v := 32) hx hb dK5_tellNumber_1 (by decide) ?_
  obtain ⟨x1, x2, ec3, hm⟩ := bd2_s hm
  have hPc := hP.sub (ws' := (wX m_a m_there_a m_now_a m_kinds_a m_targets_a m_predicates_a m_numbers_a m_puts_a m_codes_a m_weights_a m_sets_a m_picks_a m_classes_a m_steps_a m_told_a cI cZ cB cC m_rules m_changes m_mostTries m_tried m_settled m_found m_isCovered m_covered m_toldMany m_there m_now m_kinds m_targets m_predicates m_numbers m_puts m_codes m_weights m_sets m_picks m_classes m_steps m_told)) [0, 1, 2, 3, 4, 5, 6, 7, 8, 9, 10, 11, 12, 13, 14] rfl
  have hDc := hD.sub (ws' := (wX m_a m_there_a m_now_a m_kinds_a m_targets_a m_predicates_a m_numbers_a m_puts_a m_codes_a m_weights_a m_sets_a m_picks_a m_classes_a m_steps_a m_told_a cI cZ cB cC m_rules m_changes m_mostTries m_tried m_settled m_found m_isCovered m_covered m_toldMany m_there m_now m_kinds m_targets m_predicates m_numbers m_puts m_codes m_weights m_sets m_picks m_classes m_steps m_told)) [0, 1, 2, 3, 4, 5, 6, 7, 8, 9, 10, 11, 12, 13, 14] (by decide) rfl
  refine k_callv (wr := []) (w1 := (wX m_a m_there_a m_now_a m_kinds_a m_targets_a m_predicates_a m_numbers_a m_puts_a m_codes_a m_weights_a m_sets_a m_picks_a m_classes_a m_steps_a m_told_a cI cZ cB cC m_rules m_changes m_mostTries m_tried m_settled m_found m_isCovered m_covered x1 m_there m_now m_kinds m_targets m_predicates m_numbers m_puts m_codes m_weights m_sets m_picks m_classes m_steps x2)) (ws' := (wX m_a m_there_a m_now_a m_kinds_a m_targets_a m_predicates_a m_numbers_a m_puts_a m_codes_a m_weights_a m_sets_a m_picks_a m_classes_a m_steps_a m_told_a cI cZ cB cC m_rules m_changes m_mostTries m_tried m_settled m_found m_isCovered m_covered x1 m_there m_now m_kinds m_targets m_predicates m_numbers m_puts m_codes m_weights m_sets m_picks m_classes m_steps x2)) (va_runV (As := [.int 32]) (rest := []) ⟨hx, hb, hml, hown, hts⟩ (kK5_tell l D cI cZ cB cC H.size m_a m_there_a m_now_a m_kinds_a m_targets_a m_predicates_a m_numbers_a m_puts_a m_codes_a m_weights_a m_sets_a m_picks_a m_classes_a m_steps_a m_told_a m_rules m_changes m_mostTries m_tried m_settled m_found m_isCovered m_covered m_toldMany m_there m_now m_kinds m_targets m_predicates m_numbers m_puts m_codes m_weights m_sets m_picks m_classes m_steps m_told 32 x1 x2 ec3) (cwV 1 hts (gdV wdt4_191 wdt4_193 wds2_15 wdt1_10 gkK5_tell) rfl rfl rfl (by decide +kernel) ⟨Nat.le_of_ble_eq_true rfl, Nat.le_of_ble_eq_true rfl⟩) ⟨Pr_blind, va_recv hK hPc (ci := 5) (q0 := 0) rfl rfl, fun U hU hW => ⟨rfl, Pr_at hK hN hPc hDc hU hW⟩⟩ rfl rfl hl.1 rfl (lv_room (Nat.le_of_ble_eq_true rfl)) dK5_tellNumber_3 ⟨Nat.le_of_ble_eq_true rfl, Nat.le_of_ble_eq_true rfl⟩) hP hD hS hA [0, 1, 2, 3, 4, 5, 6, 7, 8, 9, 10, 11, 12, 13, 14] [] [0, 1, 2, 3, 4, 5, 6, 7, 8, 9, 10, 11, 12, 13, 14] rfl rfl (by decide) (by decide) (by decide) rfl (fun H locs hP hD hS => ?_)
  refine lv_iload_n hx hb dK5_tellNumber_6 rfl (lv_at hl 1 rfl) ?_
  refine lv_bipush (v := 9) hx hb dK5_tellNumber_7 (by decide) ?_
  refine lv_icmp_le (tgt := 23) hx hb dK5_tellNumber_9 (by decide) (fun hc => ?_) (fun hc => ?_)
  · replace hm := ift hm hc
    refine lv_aload_n hx hb dK5_tellNumber_23 rfl (lv_at hl 0 rfl) ?_
    refine lv_bipush (v := 48) hx hb dK5_tellNumber_24 (by decide) ?_
    refine lv_iload_n hx hb dK5_tellNumber_26 rfl (lv_at hl 1 rfl) ?_
    refine lv_bipush (v := 10) hx hb dK5_tellNumber_27 (by decide) ?_
    refine lv_irem hx hb dK5_tellNumber_29 (by decide) ?_
    refine lv_iadd hx hb dK5_tellNumber_30 ?_
    obtain ⟨x4, x5, ec6, hm⟩ := bd2_s hm
    have hPc := hP.sub (ws' := (wX m_a m_there_a m_now_a m_kinds_a m_targets_a m_predicates_a m_numbers_a m_puts_a m_codes_a m_weights_a m_sets_a m_picks_a m_classes_a m_steps_a m_told_a cI cZ cB cC m_rules m_changes m_mostTries m_tried m_settled m_found m_isCovered m_covered x1 m_there m_now m_kinds m_targets m_predicates m_numbers m_puts m_codes m_weights m_sets m_picks m_classes m_steps x2)) [0, 1, 2, 3, 4, 5, 6, 7, 8, 9, 10, 11, 12, 13, 14] rfl
    have hDc := hD.sub (ws' := (wX m_a m_there_a m_now_a m_kinds_a m_targets_a m_predicates_a m_numbers_a m_puts_a m_codes_a m_weights_a m_sets_a m_picks_a m_classes_a m_steps_a m_told_a cI cZ cB cC m_rules m_changes m_mostTries m_tried m_settled m_found m_isCovered m_covered x1 m_there m_now m_kinds m_targets m_predicates m_numbers m_puts m_codes m_weights m_sets m_picks m_classes m_steps x2)) [0, 1, 2, 3, 4, 5, 6, 7, 8, 9, 10, 11, 12, 13, 14] (by decide) rfl
    refine k_callv (wr := []) (w1 := (wX m_a m_there_a m_now_a m_kinds_a m_targets_a m_predicates_a m_numbers_a m_puts_a m_codes_a m_weights_a m_sets_a m_picks_a m_classes_a m_steps_a m_told_a cI cZ cB cC m_rules m_changes m_mostTries m_tried m_settled m_found m_isCovered m_covered x4 m_there m_now m_kinds m_targets m_predicates m_numbers m_puts m_codes m_weights m_sets m_picks m_classes m_steps x5)) (ws' := (wX m_a m_there_a m_now_a m_kinds_a m_targets_a m_predicates_a m_numbers_a m_puts_a m_codes_a m_weights_a m_sets_a m_picks_a m_classes_a m_steps_a m_told_a cI cZ cB cC m_rules m_changes m_mostTries m_tried m_settled m_found m_isCovered m_covered x4 m_there m_now m_kinds m_targets m_predicates m_numbers m_puts m_codes m_weights m_sets m_picks m_classes m_steps x5)) (va_runV (As := [.int (48 + (v1 - v1 / 10 * 10))]) (rest := []) ⟨hx, hb, hml, hown, hts⟩ (kK5_tell l D cI cZ cB cC H.size m_a m_there_a m_now_a m_kinds_a m_targets_a m_predicates_a m_numbers_a m_puts_a m_codes_a m_weights_a m_sets_a m_picks_a m_classes_a m_steps_a m_told_a m_rules m_changes m_mostTries m_tried m_settled m_found m_isCovered m_covered x1 m_there m_now m_kinds m_targets m_predicates m_numbers m_puts m_codes m_weights m_sets m_picks m_classes m_steps x2 (48 + (v1 - v1 / 10 * 10)) x4 x5 ec6) (cwV 1 hts (gdV wdt4_191 wdt4_193 wds2_15 wdt1_10 gkK5_tell) rfl rfl rfl (by decide +kernel) ⟨Nat.le_of_ble_eq_true rfl, Nat.le_of_ble_eq_true rfl⟩) ⟨Pr_blind, va_recv hK hPc (ci := 5) (q0 := 0) rfl rfl, fun U hU hW => ⟨rfl, Pr_at hK hN hPc hDc hU hW⟩⟩ rfl rfl hl.1 rfl (lv_room (Nat.le_of_ble_eq_true rfl)) dK5_tellNumber_31 ⟨Nat.le_of_ble_eq_true rfl, Nat.le_of_ble_eq_true rfl⟩) hP hD hS hA [0, 1, 2, 3, 4, 5, 6, 7, 8, 9, 10, 11, 12, 13, 14] [] [0, 1, 2, 3, 4, 5, 6, 7, 8, 9, 10, 11, 12, 13, 14] rfl rfl (by decide) (by decide) (by decide) rfl (fun H locs hP hD hS => ?_)
    replace hm := Option.some.inj hm
    simp only [Prod.mk.injEq] at hm
    obtain ⟨rfl, rfl⟩ := hm
    exact k_retv hx hb hr hlocks hP hD hS dK5_tellNumber_34
  · replace hm := iff_ hm hc
    refine lv_aload_n hx hb dK5_tellNumber_12 rfl (lv_at hl 0 rfl) ?_
    refine lv_bipush (v := 48) hx hb dK5_tellNumber_13 (by decide) ?_
    refine lv_iload_n hx hb dK5_tellNumber_15 rfl (lv_at hl 1 rfl) ?_
    refine lv_bipush (v := 10) hx hb dK5_tellNumber_16 (by decide) ?_
    refine lv_idiv hx hb dK5_tellNumber_18 (by decide) ?_
    refine lv_iadd hx hb dK5_tellNumber_19 ?_
    obtain ⟨x7, x8, ec9, hm⟩ := bd2_s hm
    have hPc := hP.sub (ws' := (wX m_a m_there_a m_now_a m_kinds_a m_targets_a m_predicates_a m_numbers_a m_puts_a m_codes_a m_weights_a m_sets_a m_picks_a m_classes_a m_steps_a m_told_a cI cZ cB cC m_rules m_changes m_mostTries m_tried m_settled m_found m_isCovered m_covered x1 m_there m_now m_kinds m_targets m_predicates m_numbers m_puts m_codes m_weights m_sets m_picks m_classes m_steps x2)) [0, 1, 2, 3, 4, 5, 6, 7, 8, 9, 10, 11, 12, 13, 14] rfl
    have hDc := hD.sub (ws' := (wX m_a m_there_a m_now_a m_kinds_a m_targets_a m_predicates_a m_numbers_a m_puts_a m_codes_a m_weights_a m_sets_a m_picks_a m_classes_a m_steps_a m_told_a cI cZ cB cC m_rules m_changes m_mostTries m_tried m_settled m_found m_isCovered m_covered x1 m_there m_now m_kinds m_targets m_predicates m_numbers m_puts m_codes m_weights m_sets m_picks m_classes m_steps x2)) [0, 1, 2, 3, 4, 5, 6, 7, 8, 9, 10, 11, 12, 13, 14] (by decide) rfl
    refine k_callv (wr := []) (w1 := (wX m_a m_there_a m_now_a m_kinds_a m_targets_a m_predicates_a m_numbers_a m_puts_a m_codes_a m_weights_a m_sets_a m_picks_a m_classes_a m_steps_a m_told_a cI cZ cB cC m_rules m_changes m_mostTries m_tried m_settled m_found m_isCovered m_covered x7 m_there m_now m_kinds m_targets m_predicates m_numbers m_puts m_codes m_weights m_sets m_picks m_classes m_steps x8)) (ws' := (wX m_a m_there_a m_now_a m_kinds_a m_targets_a m_predicates_a m_numbers_a m_puts_a m_codes_a m_weights_a m_sets_a m_picks_a m_classes_a m_steps_a m_told_a cI cZ cB cC m_rules m_changes m_mostTries m_tried m_settled m_found m_isCovered m_covered x7 m_there m_now m_kinds m_targets m_predicates m_numbers m_puts m_codes m_weights m_sets m_picks m_classes m_steps x8)) (va_runV (As := [.int (48 + (v1 / 10))]) (rest := []) ⟨hx, hb, hml, hown, hts⟩ (kK5_tell l D cI cZ cB cC H.size m_a m_there_a m_now_a m_kinds_a m_targets_a m_predicates_a m_numbers_a m_puts_a m_codes_a m_weights_a m_sets_a m_picks_a m_classes_a m_steps_a m_told_a m_rules m_changes m_mostTries m_tried m_settled m_found m_isCovered m_covered x1 m_there m_now m_kinds m_targets m_predicates m_numbers m_puts m_codes m_weights m_sets m_picks m_classes m_steps x2 (48 + (v1 / 10)) x7 x8 ec9) (cwV 1 hts (gdV wdt4_191 wdt4_193 wds2_15 wdt1_10 gkK5_tell) rfl rfl rfl (by decide +kernel) ⟨Nat.le_of_ble_eq_true rfl, Nat.le_of_ble_eq_true rfl⟩) ⟨Pr_blind, va_recv hK hPc (ci := 5) (q0 := 0) rfl rfl, fun U hU hW => ⟨rfl, Pr_at hK hN hPc hDc hU hW⟩⟩ rfl rfl hl.1 rfl (lv_room (Nat.le_of_ble_eq_true rfl)) dK5_tellNumber_20 ⟨Nat.le_of_ble_eq_true rfl, Nat.le_of_ble_eq_true rfl⟩) hP hD hS hA [0, 1, 2, 3, 4, 5, 6, 7, 8, 9, 10, 11, 12, 13, 14] [] [0, 1, 2, 3, 4, 5, 6, 7, 8, 9, 10, 11, 12, 13, 14] rfl rfl (by decide) (by decide) (by decide) rfl (fun H locs hP hD hS => ?_)
    refine lv_aload_n hx hb dK5_tellNumber_23 rfl (lv_at hl 0 rfl) ?_
    refine lv_bipush (v := 48) hx hb dK5_tellNumber_24 (by decide) ?_
    refine lv_iload_n hx hb dK5_tellNumber_26 rfl (lv_at hl 1 rfl) ?_
    refine lv_bipush (v := 10) hx hb dK5_tellNumber_27 (by decide) ?_
    refine lv_irem hx hb dK5_tellNumber_29 (by decide) ?_
    refine lv_iadd hx hb dK5_tellNumber_30 ?_
    obtain ⟨x10, x11, ec12, hm⟩ := bd2_s hm
    have hPc := hP.sub (ws' := (wX m_a m_there_a m_now_a m_kinds_a m_targets_a m_predicates_a m_numbers_a m_puts_a m_codes_a m_weights_a m_sets_a m_picks_a m_classes_a m_steps_a m_told_a cI cZ cB cC m_rules m_changes m_mostTries m_tried m_settled m_found m_isCovered m_covered x7 m_there m_now m_kinds m_targets m_predicates m_numbers m_puts m_codes m_weights m_sets m_picks m_classes m_steps x8)) [0, 1, 2, 3, 4, 5, 6, 7, 8, 9, 10, 11, 12, 13, 14] rfl
    have hDc := hD.sub (ws' := (wX m_a m_there_a m_now_a m_kinds_a m_targets_a m_predicates_a m_numbers_a m_puts_a m_codes_a m_weights_a m_sets_a m_picks_a m_classes_a m_steps_a m_told_a cI cZ cB cC m_rules m_changes m_mostTries m_tried m_settled m_found m_isCovered m_covered x7 m_there m_now m_kinds m_targets m_predicates m_numbers m_puts m_codes m_weights m_sets m_picks m_classes m_steps x8)) [0, 1, 2, 3, 4, 5, 6, 7, 8, 9, 10, 11, 12, 13, 14] (by decide) rfl
    refine k_callv (wr := []) (w1 := (wX m_a m_there_a m_now_a m_kinds_a m_targets_a m_predicates_a m_numbers_a m_puts_a m_codes_a m_weights_a m_sets_a m_picks_a m_classes_a m_steps_a m_told_a cI cZ cB cC m_rules m_changes m_mostTries m_tried m_settled m_found m_isCovered m_covered x10 m_there m_now m_kinds m_targets m_predicates m_numbers m_puts m_codes m_weights m_sets m_picks m_classes m_steps x11)) (ws' := (wX m_a m_there_a m_now_a m_kinds_a m_targets_a m_predicates_a m_numbers_a m_puts_a m_codes_a m_weights_a m_sets_a m_picks_a m_classes_a m_steps_a m_told_a cI cZ cB cC m_rules m_changes m_mostTries m_tried m_settled m_found m_isCovered m_covered x10 m_there m_now m_kinds m_targets m_predicates m_numbers m_puts m_codes m_weights m_sets m_picks m_classes m_steps x11)) (va_runV (As := [.int (48 + (v1 - v1 / 10 * 10))]) (rest := []) ⟨hx, hb, hml, hown, hts⟩ (kK5_tell l D cI cZ cB cC H.size m_a m_there_a m_now_a m_kinds_a m_targets_a m_predicates_a m_numbers_a m_puts_a m_codes_a m_weights_a m_sets_a m_picks_a m_classes_a m_steps_a m_told_a m_rules m_changes m_mostTries m_tried m_settled m_found m_isCovered m_covered x7 m_there m_now m_kinds m_targets m_predicates m_numbers m_puts m_codes m_weights m_sets m_picks m_classes m_steps x8 (48 + (v1 - v1 / 10 * 10)) x10 x11 ec12) (cwV 1 hts (gdV wdt4_191 wdt4_193 wds2_15 wdt1_10 gkK5_tell) rfl rfl rfl (by decide +kernel) ⟨Nat.le_of_ble_eq_true rfl, Nat.le_of_ble_eq_true rfl⟩) ⟨Pr_blind, va_recv hK hPc (ci := 5) (q0 := 0) rfl rfl, fun U hU hW => ⟨rfl, Pr_at hK hN hPc hDc hU hW⟩⟩ rfl rfl hl.1 rfl (lv_room (Nat.le_of_ble_eq_true rfl)) dK5_tellNumber_31 ⟨Nat.le_of_ble_eq_true rfl, Nat.le_of_ble_eq_true rfl⟩) hP hD hS hA [0, 1, 2, 3, 4, 5, 6, 7, 8, 9, 10, 11, 12, 13, 14] [] [0, 1, 2, 3, 4, 5, 6, 7, 8, 9, 10, 11, 12, 13, 14] rfl rfl (by decide) (by decide) (by decide) rfl (fun H locs hP hD hS => ?_)
    replace hm := Option.some.inj hm
    simp only [Prod.mk.injEq] at hm
    obtain ⟨rfl, rfl⟩ := hm
    exact k_retv hx hb hr hlocks hP hD hS dK5_tellNumber_34
