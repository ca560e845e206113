def mK5_clear (m_changes : Int32) (m_found : Int32) (m_isCovered : Int32) : Option (Int32 × Int32 × Int32 × Int32) :=
  some (m_changes, 0, 0, 0)
abbrev rmK5_clear : Room := { frames := 0, cells := 0, slots := 0, locals := 0 }
set_option maxHeartbeats 4000000 in
set_option maxRecDepth 100000 in
theorem kK5_clear (l : Launch) (D : va_G) (cI cZ cB cC : ClassId) (sz : Nat) (m_a : Nat) (m_there_a : Nat) (m_now_a : Nat) (m_kinds_a : Nat) (m_targets_a : Nat) (m_predicates_a : Nat) (m_numbers_a : Nat) (m_puts_a : Nat) (m_codes_a : Nat) (m_weights_a : Nat) (m_sets_a : Nat) (m_picks_a : Nat) (m_classes_a : Nat) (m_steps_a : Nat) (m_told_a : Nat) (m_rules : Int32) (m_changes : Int32) (m_mostTries : Int32) (m_tried : Int32) (m_settled : Int32) (m_found : Int32) (m_isCovered : Int32) (m_covered : Int32) (m_toldMany : Int32) (m_there : Nat → Int32) (m_now : Nat → Int32) (m_kinds : Nat → Int32) (m_targets : Nat → Int32) (m_predicates : Nat → Int32) (m_numbers : Nat → Int32) (m_puts : Nat → Int32) (m_codes : Nat → Int32) (m_weights : Nat → Int32) (m_sets : Nat → Int32) (m_picks : Nat → Int32) (m_classes : Nat → Int32) (m_steps : Nat → Int32) (m_told : Nat → Int32) (r0 : Int32) (m_changes_r : Int32) (m_found_r : Int32) (m_isCovered_r : Int32) (hm : mK5_clear m_changes m_found m_isCovered = some (r0, m_changes_r, m_found_r, m_isCovered_r)) : Met l yK5_clear wsK5_clear rmK5_clear (va_Pc [.ref m_a] (Pr D (tyL cI cZ cB cC) sz (wX m_a m_there_a m_now_a m_kinds_a m_targets_a m_predicates_a m_numbers_a m_puts_a m_codes_a m_weights_a m_sets_a m_picks_a m_classes_a m_steps_a m_told_a cI cZ cB cC m_rules m_changes m_mostTries m_tried m_settled m_found m_isCovered m_covered m_toldMany m_there m_now m_kinds m_targets m_predicates m_numbers m_puts m_codes m_weights m_sets m_picks m_classes m_steps m_told))) (QI D (va_A (wX m_a m_there_a m_now_a m_kinds_a m_targets_a m_predicates_a m_numbers_a m_puts_a m_codes_a m_weights_a m_sets_a m_picks_a m_classes_a m_steps_a m_told_a cI cZ cB cC m_rules m_changes m_mostTries m_tried m_settled m_found m_isCovered m_covered m_toldMany m_there m_now m_kinds m_targets m_predicates m_numbers m_puts m_codes m_weights m_sets m_picks m_classes m_steps m_told) sz) r0 (wX m_a m_there_a m_now_a m_kinds_a m_targets_a m_predicates_a m_numbers_a m_puts_a m_codes_a m_weights_a m_sets_a m_picks_a m_classes_a m_steps_a m_told_a cI cZ cB cC m_rules m_changes_r m_mostTries m_tried m_settled m_found_r m_isCovered_r m_covered m_toldMany m_there m_now m_kinds m_targets m_predicates m_numbers m_puts m_codes m_weights m_sets m_picks m_classes m_steps m_told)) 0 0 (va_A (wX m_a m_there_a m_now_a m_kinds_a m_targets_a m_predicates_a m_numbers_a m_puts_a m_codes_a m_weights_a m_sets_a m_picks_a m_classes_a m_steps_a m_told_a cI cZ cB cC m_rules m_changes m_mostTries m_tried m_settled m_found m_isCovered m_covered m_toldMany m_there m_now m_kinds m_targets m_predicates m_numbers m_puts m_codes m_weights m_sets m_picks m_classes m_steps m_told) sz) := by
  refine Met.ofW (cc := cK5_clear) (maxL := 2) (ret := (some .int)) (by decide) rfl ?_
  intro p e s m args below meth c s₁ B hml hv
  obtain ⟨rfl, hsz, hP, hK, hD0, hN⟩ := hv
  have hx := B.exec
  have hb := B.bytes
  have hr := B.returns
  have hts := htsA (atoms_spec (ws := wsK5_clear) B.pre)
  have hown : s.vm.findClass RK5 = some m.cls := findClass_of_methodNamed B.named
  have hlocks := B.notSynchronized
  subst hsz
  have hD := hD0.self (sz := s.heap.size)
  generalize hAe : va_A (wX m_a m_there_a m_now_a m_kinds_a m_targets_a m_predicates_a m_numbers_a m_puts_a m_codes_a m_weights_a m_sets_a m_picks_a m_classes_a m_steps_a m_told_a cI cZ cB cC m_rules m_changes m_mostTries m_tried m_settled m_found m_isCovered m_covered m_toldMany m_there m_now m_kinds m_targets m_predicates m_numbers m_puts m_codes m_weights m_sets m_picks m_classes m_steps m_told) s.heap.size = A at hD ⊢
  have hA : ∀ q : Nat, s.heap.size ≤ q → A q := fun q h => by rw [← hAe]; exact Or.inr h
  refine kstart (A := A) hP (fun H hP hS => ?_)
  have hl := lv_entry ([.ref m_a]) (n := 2) (Nat.le_of_ble_eq_true rfl)
  rw [lg_entry_eq]
  generalize (lg_sl ([.ref m_a]) ++ List.replicate (2 - (lg_sl ([.ref m_a])).length) Slot.unset).toArray = ls at hl ⊢
  have hl : lv_has ls 2 [(0, .ref m_a)] := hl
  unfold mK5_clear at hm
  refine lv_aload_n hx hb dK5_clear_0 rfl (lv_at hl 0 rfl) ?_
  refine va_get (D := D) (ci := 5) (v := .int m_changes) (C := RK5) (T := TK5) (N := 23) hx hb hts inK5 hown hK hP 0 rfl rfl 7 (by decide) (hts _ wdt3_193) (fun _ h9 => h9) rfl dK5_clear_1 ?_
  refine lv_istore_n (lv' := [(1, .int m_changes), (0, .ref m_a)]) hx hb dK5_clear_4 rfl hl (by decide) rfl (fun ls hl => ?_)
  refine lv_aload_n hx hb dK5_clear_5 rfl (lv_at hl 1 rfl) ?_
  refine lv_iconst (v := 0) hx hb dK5_clear_6 (by decide) ?_
  refine va_put (D := D) (ci := 5) (v := .int 0) (ty := .int) (C := RK5) (T := TK5) (N := 23) hx hb hts inK5 tyK5 tyK5_ok nmK5 hown hK hP hD hS 0 rfl rfl 7 (by decide) (hts _ wdt3_193) (fun _ h9 => h9) rfl (by decide +kernel) rfl rfl (Nat.le_of_ble_eq_true rfl) dK5_clear_7 (fun H locs hP hD hS => ?_)
  have hP : va_P D vwCl (wX m_a m_there_a m_now_a m_kinds_a m_targets_a m_predicates_a m_numbers_a m_puts_a m_codes_a m_weights_a m_sets_a m_picks_a m_classes_a m_steps_a m_told_a cI cZ cB cC m_rules 0 m_mostTries m_tried m_settled m_found m_isCovered m_covered m_toldMany m_there m_now m_kinds m_targets m_predicates m_numbers m_puts m_codes m_weights m_sets m_picks m_classes m_steps m_told) H := hP
  have hD : va_D A (wX m_a m_there_a m_now_a m_kinds_a m_targets_a m_predicates_a m_numbers_a m_puts_a m_codes_a m_weights_a m_sets_a m_picks_a m_classes_a m_steps_a m_told_a cI cZ cB cC m_rules 0 m_mostTries m_tried m_settled m_found m_isCovered m_covered m_toldMany m_there m_now m_kinds m_targets m_predicates m_numbers m_puts m_codes m_weights m_sets m_picks m_classes m_steps m_told) := hD
  refine lv_aload_n hx hb dK5_clear_10 rfl (lv_at hl 1 rfl) ?_
  refine lv_iconst (v := 0) hx hb dK5_clear_11 (by decide) ?_
  refine va_put (D := D) (ci := 5) (v := .int 0) (ty := .int) (C := RK5) (T := TK5) (N := 23) hx hb hts inK5 tyK5 tyK5_ok nmK5 hown hK hP hD hS 0 rfl rfl 14 (by decide) (hts _ wdt3_200) (fun _ h9 => h9) rfl (by decide +kernel) rfl rfl (Nat.le_of_ble_eq_true rfl) dK5_clear_12 (fun H locs hP hD hS => ?_)
  have hP : va_P D vwCl (wX m_a m_there_a m_now_a m_kinds_a m_targets_a m_predicates_a m_numbers_a m_puts_a m_codes_a m_weights_a m_sets_a m_picks_a m_classes_a m_steps_a m_told_a cI cZ cB cC m_rules 0 m_mostTries m_tried m_settled 0 m_isCovered m_covered m_toldMany m_there m_now m_kinds m_targets m_predicates m_numbers m_puts m_codes m_weights m_sets m_picks m_classes m_steps m_told) H := hP
  have hD : va_D A (wX m_a m_there_a m_now_a m_kinds_a m_targets_a m_predicates_a m_numbers_a m_puts_a m_codes_a m_weights_a m_sets_a m_picks_a m_classes_a m_steps_a m_told_a cI cZ cB cC m_rules 0 m_mostTries m_tried m_settled 0 m_isCovered m_covered m_toldMany m_there m_now m_kinds m_targets m_predicates m_numbers m_puts m_codes m_weights m_sets m_picks m_classes m_steps m_told) := hD
  refine lv_aload_n hx hb dK5_clear_15 rfl (lv_at hl 1 rfl) ?_
  refine lv_iconst (v := 0) hx hb dK5_clear_16 (by decide) ?_
  refine va_put (D := D) (ci := 5) (v := .int 0) (ty := .boolean) (C := RK5) (T := TK5) (N := 23) hx hb hts inK5 tyK5 tyK5_ok nmK5 hown hK hP hD hS 0 rfl rfl 16 (by decide) (hts _ wdt3_202) (fun _ h9 => h9) rfl (by decide +kernel) rfl rfl (Nat.le_of_ble_eq_true rfl) dK5_clear_17 (fun H locs hP hD hS => ?_)
  have hP : va_P D vwCl (wX m_a m_there_a m_now_a m_kinds_a m_targets_a m_predicates_a m_numbers_a m_puts_a m_codes_a m_weights_a m_sets_a m_picks_a m_classes_a m_steps_a m_told_a cI cZ cB cC m_rules 0 m_mostTries m_tried m_settled 0 0 m_covered m_toldMany m_there m_now m_kinds m_targets m_predicates m_numbers m_puts m_codes m_weights m_sets m_picks m_classes m_steps m_told) H := hP
  have hD : va_D A (wX m_a m_there_a m_now_a m_kinds_a m_targets_a m_predicates_a m_numbers_a m_puts_a m_codes_a m_weights_a m_sets_a m_picks_a m_classes_a m_steps_a m_told_a cI cZ cB cC m_rules 0 m_mostTries m_tried m_settled 0 0 m_covered m_toldMany m_there m_now m_kinds m_targets m_predicates m_numbers m_puts m_codes m_weights m_sets m_picks m_classes m_steps m_told) := hD
  refine lv_iload_n hx hb dK5_clear_20 rfl (lv_at hl 0 rfl) ?_
  replace hm := Option.some.inj hm
  simp only [Prod.mk.injEq] at hm
  obtain ⟨rfl, rfl, rfl, rfl⟩ := hm
  exact k_reti hx hb hr hlocks hP hD hS dK5_clear_21
def mK5_tries (m_mostTries : Int32) (v1 : Int32) : Option (Int32 × Int32) :=
  bd1 (mK5_in v1 1 5000) fun x1 => if x1 = 0 then
  (some ((-1), m_mostTries))
  else
  (some (v1, v1))
abbrev rmK5_tries : Room := { frames := 1, cells := 0, slots := 0, locals := 22 }
set_option maxHeartbeats 4000000 in
set_option maxRecDepth 100000 in
theorem kK5_tries (l : Launch) (D : va_G) (cI cZ cB cC : ClassId) (sz : Nat) (m_a : Nat) (m_there_a : Nat) (m_now_a : Nat) (m_kinds_a : Nat) (m_targets_a : Nat) (m_predicates_a : Nat) (m_numbers_a : Nat) (m_puts_a : Nat) (m_codes_a : Nat) (m_weights_a : Nat) (m_sets_a : Nat) (m_picks_a : Nat) (m_classes_a : Nat) (m_steps_a : Nat) (m_told_a : Nat) (m_rules : Int32) (m_changes : Int32) (m_mostTries : Int32) (m_tried : Int32) (m_settled : Int32) (m_found : Int32) (m_isCovered : Int32) (m_covered : Int32) (m_toldMany : Int32) (m_there : Nat → Int32) (m_now : Nat → Int32) (m_kinds : Nat → Int32) (m_targets : Nat → Int32) (m_predicates : Nat → Int32) (m_numbers : Nat → Int32) (m_puts : Nat → Int32) (m_codes : Nat → Int32) (m_weights : Nat → Int32) (m_sets : Nat → Int32) (m_picks : Nat → Int32) (m_classes : Nat → Int32) (m_steps : Nat → Int32) (m_told : Nat → Int32) (v1 : Int32) (r0 : Int32) (m_mostTries_r : Int32) (hm : mK5_tries m_mostTries v1 = some (r0, m_mostTries_r)) : Met l yK5_tries wsK5_tries rmK5_tries (va_Pc [.ref m_a, .int v1] (Pr D (tyL cI cZ cB cC) sz (wX m_a m_there_a m_now_a m_kinds_a m_targets_a m_predicates_a m_numbers_a m_puts_a m_codes_a m_weights_a m_sets_a m_picks_a m_classes_a m_steps_a m_told_a cI cZ cB cC m_rules m_changes m_mostTries m_tried m_settled m_found m_isCovered m_covered m_toldMany m_there m_now m_kinds m_targets m_predicates m_numbers m_puts m_codes m_weights m_sets m_picks m_classes m_steps m_told))) (QI D (va_A (wX m_a m_there_a m_now_a m_kinds_a m_targets_a m_predicates_a m_numbers_a m_puts_a m_codes_a m_weights_a m_sets_a m_picks_a m_classes_a m_steps_a m_told_a cI cZ cB cC m_rules m_changes m_mostTries m_tried m_settled m_found m_isCovered m_covered m_toldMany m_there m_now m_kinds m_targets m_predicates m_numbers m_puts m_codes m_weights m_sets m_picks m_classes m_steps m_told) sz) r0 (wX m_a m_there_a m_now_a m_kinds_a m_targets_a m_predicates_a m_numbers_a m_puts_a m_codes_a m_weights_a m_sets_a m_picks_a m_classes_a m_steps_a m_told_a cI cZ cB cC m_rules m_changes m_mostTries_r m_tried m_settled m_found m_isCovered m_covered m_toldMany m_there m_now m_kinds m_targets m_predicates m_numbers m_puts m_codes m_weights m_sets m_picks m_classes m_steps m_told)) 0 0 (va_A (wX m_a m_there_a m_now_a m_kinds_a m_targets_a m_predicates_a m_numbers_a m_puts_a m_codes_a m_weights_a m_sets_a m_picks_a m_classes_a m_steps_a m_told_a cI cZ cB cC m_rules m_changes m_mostTries m_tried m_settled m_found m_isCovered m_covered m_toldMany m_there m_now m_kinds m_targets m_predicates m_numbers m_puts m_codes m_weights m_sets m_picks m_classes m_steps m_told) sz) := by
  refine Met.ofW (cc := cK5_tries) (maxL := 2) (ret := (some .int)) (by decide) rfl ?_
  intro p e s m args below meth c s₁ B hml hv
  obtain ⟨rfl, hsz, hP, hK, hD0, hN⟩ := hv
  have hx := B.exec
  have hb := B.bytes
  have hr := B.returns
  have hts := htsA (atoms_spec (ws := wsK5_tries) B.pre)
  have hown : s.vm.findClass RK5 = some m.cls := findClass_of_methodNamed B.named
  have hlocks := B.notSynchronized
  subst hsz
  have hD := hD0.self (sz := s.heap.size)
  generalize hAe : va_A (wX m_a m_there_a m_now_a m_kinds_a m_targets_a m_predicates_a m_numbers_a m_puts_a m_codes_a m_weights_a m_sets_a m_picks_a m_classes_a m_steps_a m_told_a cI cZ cB cC m_rules m_changes m_mostTries m_tried m_settled m_found m_isCovered m_covered m_toldMany m_there m_now m_kinds m_targets m_predicates m_numbers m_puts m_codes m_weights m_sets m_picks m_classes m_steps m_told) s.heap.size = A at hD ⊢
  have hA : ∀ q : Nat, s.heap.size ≤ q → A q := fun q h => by rw [← hAe]; exact Or.inr h
  refine kstart (A := A) hP (fun H hP hS => ?_)
  have hl := lv_entry ([.ref m_a, .int v1]) (n := 2) (Nat.le_of_ble_eq_true rfl)
  rw [lg_entry_eq]
  generalize (lg_sl ([.ref m_a, .int v1]) ++ List.replicate (2 - (lg_sl ([.ref m_a, .int v1])).length) Slot.unset).toArray = ls at hl ⊢
  have hl : lv_has ls 2 [(0, .ref m_a), (1, .int v1)] := hl
  unfold mK5_tries at hm
  refine lv_iload_n hx hb dK5_tries_0 rfl (lv_at hl 1 rfl) ?_
  refine lv_iconst (v := 1) hx hb dK5_tries_1 (by decide) ?_
  refine lv_sipush (v := 5000) hx hb dK5_tries_2 (by decide) ?_
  obtain ⟨x1, ec2, hm⟩ := bd1_s hm
  have hPc : va_P D vwCl [] H := va_P0
  have hDc : va_D A [] := va_D0
  refine k_calli0 (va_runS (As := [.int v1, .int 1, .int 5000]) (rest := []) ⟨hx, hb, hml, hown, hts⟩ (kK5_in l D cI cZ cB cC H.size v1 1 5000 x1 ec2) (va_cwS 3 hts (gdS wdt4_23 wdt4_24 wdt1_10 gkK5_in) rfl rfl rfl (by decide +kernel) ⟨Nat.le_of_ble_eq_true rfl, Nat.le_of_ble_eq_true rfl⟩) ⟨Pr_blind, fun U hU hW => ⟨rfl, Pr_at hK hN hPc hDc hU hW⟩⟩ rfl rfl hl.1 rfl (lv_room (Nat.le_of_ble_eq_true rfl)) dK5_tries_5 ⟨Nat.le_of_ble_eq_true rfl, Nat.le_of_ble_eq_true rfl⟩) hP hD hS hA (fun H locs hP hD hS => ?_)
  refine lv_if_ne (tgt := 13) hx hb dK5_tries_8 (by decide) (fun hc => ?_) (fun hc => ?_)
  · replace hm := iff_ hm hc
    refine lv_aload_n hx hb dK5_tries_13 rfl (lv_at hl 0 rfl) ?_
    refine lv_iload_n hx hb dK5_tries_14 rfl (lv_at hl 1 rfl) ?_
    refine va_put (D := D) (ci := 5) (v := .int v1) (ty := .int) (C := RK5) (T := TK5) (N := 23) hx hb hts inK5 tyK5 tyK5_ok nmK5 hown hK hP hD hS 0 rfl rfl 11 (by decide) (hts _ wdt3_197) (fun _ h9 => h9) rfl (by decide +kernel) rfl rfl (Nat.le_of_ble_eq_true rfl) dK5_tries_15 (fun H locs hP hD hS => ?_)
    have hP : va_P D vwCl (wX m_a m_there_a m_now_a m_kinds_a m_targets_a m_predicates_a m_numbers_a m_puts_a m_codes_a m_weights_a m_sets_a m_picks_a m_classes_a m_steps_a m_told_a cI cZ cB cC m_rules m_changes v1 m_tried m_settled m_found m_isCovered m_covered m_toldMany m_there m_now m_kinds m_targets m_predicates m_numbers m_puts m_codes m_weights m_sets m_picks m_classes m_steps m_told) H := hP
    have hD : va_D A (wX m_a m_there_a m_now_a m_kinds_a m_targets_a m_predicates_a m_numbers_a m_puts_a m_codes_a m_weights_a m_sets_a m_picks_a m_classes_a m_steps_a m_told_a cI cZ cB cC m_rules m_changes v1 m_tried m_settled m_found m_isCovered m_covered m_toldMany m_there m_now m_kinds m_targets m_predicates m_numbers m_puts m_codes m_weights m_sets m_picks m_classes m_steps m_told) := hD
    refine lv_iload_n hx hb dK5_tries_18 rfl (lv_at hl 1 rfl) ?_
    replace hm := Option.some.inj hm
    simp only [Prod.mk.injEq] at hm
    obtain ⟨rfl, rfl⟩ := hm
    exact k_reti hx hb hr hlocks hP hD hS dK5_tries_19
  · replace hm := ift hm hc
    refine lv_iconst (v := (-1)) hx hb dK5_tries_11 (by decide) ?_
    replace hm := Option.some.inj hm
    simp only [Prod.mk.injEq] at hm
    obtain ⟨rfl, rfl⟩ := hm
    exact k_reti hx hb hr hlocks hP hD hS dK5_tries_12
def mK5_first_A2 (m_picksx2 : Nat → Int32) : Option ((Nat → Int32)) :=
  some m_picksx2
def mK5_first_B2 (v1 : Int32) (kx2 : (Nat → Int32) → (Option ((Nat → Int32)))) (rc2 : Int32 → (Nat → Int32) → (Option ((Nat → Int32)))) (i2l2 : Int32) (m_picksl2 : Nat → Int32) : Option ((Nat → Int32)) :=
  if v1 ≤ i2l2 then
  (kx2 m_picksl2)
  else
  (bd1 (wrt m_picksl2 12 i2l2 i2l2) fun x1 => bd1 (some (i2l2 + 1)) fun x2 => rc2 x2 x1)
def mK5_first_L2 (v1 : Int32) (kx2 : (Nat → Int32) → (Option ((Nat → Int32)))) : Nat → Int32 → (Nat → Int32) → (Option ((Nat → Int32)))
  | 0, _, _ => none
  | n + 1, i2l2, m_picksl2 => mK5_first_B2 v1 kx2 (mK5_first_L2 v1 kx2 n) i2l2 m_picksl2
def mK5_first (m_picks : Nat → Int32) (v1 : Int32) : Option ((Nat → Int32)) :=
  mK5_first_L2 v1 (mK5_first_A2) 5000 0 m_picks
abbrev rmK5_first : Room := { frames := 0, cells := 0, slots := 0, locals := 0 }
set_option maxHeartbeats 4000000 in
set_option maxRecDepth 100000 in
theorem kK5_first (l : Launch) (D : va_G) (cI cZ cB cC : ClassId) (sz : Nat) (m_a : Nat) (m_there_a : Nat) (m_now_a : Nat) (m_kinds_a : Nat) (m_targets_a : Nat) (m_predicates_a : Nat) (m_numbers_a : Nat) (m_puts_a : Nat) (m_codes_a : Nat) (m_weights_a : Nat) (m_sets_a : Nat) (m_picks_a : Nat) (m_classes_a : Nat) (m_steps_a : Nat) (m_told_a : Nat) (m_rules : Int32) (m_changes : Int32) (m_mostTries : Int32) (m_tried : Int32) (m_settled : Int32) (m_found : Int32) (m_isCovered : Int32) (m_covered : Int32) (m_toldMany : Int32) (m_there : Nat → Int32) (m_now : Nat → Int32) (m_kinds : Nat → Int32) (m_targets : Nat → Int32) (m_predicates : Nat → Int32) (m_numbers : Nat → Int32) (m_puts : Nat → Int32) (m_codes : Nat → Int32) (m_weights : Nat → Int32) (m_sets : Nat → Int32) (m_picks : Nat → Int32) (m_classes : Nat → Int32) (m_steps : Nat → Int32) (m_told : Nat → Int32) (v1 : Int32) (m_picks_r : Nat → Int32) (hm : mK5_first m_picks v1 = some m_picks_r) : Met l yK5_first wsK5_first rmK5_first (va_Pc [.ref m_a, .int v1] (Pr D (tyL cI cZ cB cC) sz (wX m_a m_there_a m_now_a m_kinds_a m_targets_a m_predicates_a m_numbers_a m_puts_a m_codes_a m_weights_a m_sets_a m_picks_a m_classes_a m_steps_a m_told_a cI cZ cB cC m_rules m_changes m_mostTries m_tried m_settled m_found m_isCovered m_covered m_toldMany m_there m_now m_kinds m_targets m_predicates m_numbers m_puts m_codes m_weights m_sets m_picks m_classes m_steps m_told))) (QV D (va_A (wX m_a m_there_a m_now_a m_kinds_a m_targets_a m_predicates_a m_numbers_a m_puts_a m_codes_a m_weights_a m_sets_a m_picks_a m_classes_a m_steps_a m_told_a cI cZ cB cC m_rules m_changes m_mostTries m_tried m_settled m_found m_isCovered m_covered m_toldMany m_there m_now m_kinds m_targets m_predicates m_numbers m_puts m_codes m_weights m_sets m_picks m_classes m_steps m_told) sz) (wX m_a m_there_a m_now_a m_kinds_a m_targets_a m_predicates_a m_numbers_a m_puts_a m_codes_a m_weights_a m_sets_a m_picks_a m_classes_a m_steps_a m_told_a cI cZ cB cC m_rules m_changes m_mostTries m_tried m_settled m_found m_isCovered m_covered m_toldMany m_there m_now m_kinds m_targets m_predicates m_numbers m_puts m_codes m_weights m_sets m_picks_r m_classes m_steps m_told)) 0 0 (va_A (wX m_a m_there_a m_now_a m_kinds_a m_targets_a m_predicates_a m_numbers_a m_puts_a m_codes_a m_weights_a m_sets_a m_picks_a m_classes_a m_steps_a m_told_a cI cZ cB cC m_rules m_changes m_mostTries m_tried m_settled m_found m_isCovered m_covered m_toldMany m_there m_now m_kinds m_targets m_predicates m_numbers m_puts m_codes m_weights m_sets m_picks m_classes m_steps m_told) sz) := by
  refine Met.ofW (cc := cK5_first) (maxL := 3) (ret := none) (by decide) rfl ?_
  intro p e s m args below meth c s₁ B hml hv
  obtain ⟨rfl, hsz, hP, hK, hD0, hN⟩ := hv
  have hx := B.exec
  have hb := B.bytes
  have hr := B.returns
  have hts := htsA (atoms_spec (ws := wsK5_first) B.pre)
  have hown : s.vm.findClass RK5 = some m.cls := findClass_of_methodNamed B.named
  have hlocks := B.notSynchronized
  subst hsz
  have hD := hD0.self (sz := s.heap.size)
  generalize hAe : va_A (wX m_a m_there_a m_now_a m_kinds_a m_targets_a m_predicates_a m_numbers_a m_puts_a m_codes_a m_weights_a m_sets_a m_picks_a m_classes_a m_steps_a m_told_a cI cZ cB cC m_rules m_changes m_mostTries m_tried m_settled m_found m_isCovered m_covered m_toldMany m_there m_now m_kinds m_targets m_predicates m_numbers m_puts m_codes m_weights m_sets m_picks m_classes m_steps m_told) s.heap.size = A at hD ⊢
  have hA : ∀ q : Nat, s.heap.size ≤ q → A q := fun q h => by rw [← hAe]; exact Or.inr h
  refine kstart (A := A) hP (fun H hP hS => ?_)
  have hl := lv_entry ([.ref m_a, .int v1]) (n := 3) (Nat.le_of_ble_eq_true rfl)
  rw [lg_entry_eq]
  generalize (lg_sl ([.ref m_a, .int v1]) ++ List.replicate (3 - (lg_sl ([.ref m_a, .int v1])).length) Slot.unset).toArray = ls at hl ⊢
  have hl : lv_has ls 3 [(0, .ref m_a), (1, .int v1)] := hl
  unfold mK5_first at hm
  refine lv_iconst (v := 0) hx hb dK5_first_0 (by decide) ?_
  refine lv_istore_n (lv' := [(2, .int 0), (0, .ref m_a), (1, .int v1)]) hx hb dK5_first_1 rfl hl (by decide) rfl (fun ls hl => ?_)
  have lx2 : ∀ (m_picksx2 : Nat → Int32) (H : Heap) (locs : List Loc) (ls : Array Slot), mK5_first_A2 m_picksx2 = some m_picks_r → va_P D vwCl (wX m_a m_there_a m_now_a m_kinds_a m_targets_a m_predicates_a m_numbers_a m_puts_a m_codes_a m_weights_a m_sets_a m_picks_a m_classes_a m_steps_a m_told_a cI cZ cB cC m_rules m_changes m_mostTries m_tried m_settled m_found m_isCovered m_covered m_toldMany m_there m_now m_kinds m_targets m_predicates m_numbers m_puts m_codes m_weights m_sets m_picksx2 m_classes m_steps m_told) H → va_D A (wX m_a m_there_a m_now_a m_kinds_a m_targets_a m_predicates_a m_numbers_a m_puts_a m_codes_a m_weights_a m_sets_a m_picks_a m_classes_a m_steps_a m_told_a cI cZ cB cC m_rules m_changes m_mostTries m_tried m_settled m_found m_isCovered m_covered m_toldMany m_there m_now m_kinds m_targets m_predicates m_numbers m_puts m_codes m_weights m_sets m_picksx2 m_classes m_steps m_told) → va_S A s.heap H locs → lv_has ls 3 [] → W p l e (headSpec wsK5_first rmK5_first).room s m ([.ref m_a, .int v1] : List Value).toArray below meth c H locs 0 0 (MQ below (QV D A (wX m_a m_there_a m_now_a m_kinds_a m_targets_a m_predicates_a m_numbers_a m_puts_a m_codes_a m_weights_a m_sets_a m_picks_a m_classes_a m_steps_a m_told_a cI cZ cB cC m_rules m_changes m_mostTries m_tried m_settled m_found m_isCovered m_covered m_toldMany m_there m_now m_kinds m_targets m_predicates m_numbers m_puts m_codes m_weights m_sets m_picks_r m_classes m_steps m_told)) ([.ref m_a, .int v1] : List Value).toArray s 0 0 A) (F0 m 20 ls []) := by
    intro m_picksx2 H locs ls hm hP hD hS hl
    unfold mK5_first_A2 at hm
    replace hm := Option.some.inj hm
    subst hm
    exact k_retv hx hb hr hlocks hP hD hS dK5_first_20
  have lp2 : ∀ (n2 : Nat) (i2l2 : Int32) (m_picksl2 : Nat → Int32) (H : Heap) (locs : List Loc) (ls : Array Slot), mK5_first_L2 v1 (mK5_first_A2) n2 i2l2 m_picksl2 = some m_picks_r → va_P D vwCl (wX m_a m_there_a m_now_a m_kinds_a m_targets_a m_predicates_a m_numbers_a m_puts_a m_codes_a m_weights_a m_sets_a m_picks_a m_classes_a m_steps_a m_told_a cI cZ cB cC m_rules m_changes m_mostTries m_tried m_settled m_found m_isCovered m_covered m_toldMany m_there m_now m_kinds m_targets m_predicates m_numbers m_puts m_codes m_weights m_sets m_picksl2 m_classes m_steps m_told) H → va_D A (wX m_a m_there_a m_now_a m_kinds_a m_targets_a m_predicates_a m_numbers_a m_puts_a m_codes_a m_weights_a m_sets_a m_picks_a m_classes_a m_steps_a m_told_a cI cZ cB cC m_rules m_changes m_mostTries m_tried m_settled m_found m_isCovered m_covered m_toldMany m_there m_now m_kinds m_targets m_predicates m_numbers m_puts m_codes m_weights m_sets m_picksl2 m_classes m_steps m_told) → va_S A s.heap H locs → lv_has ls 3 [(2, .int i2l2), (0, .ref m_a), (1, .int v1)] → W p l e (headSpec wsK5_first rmK5_first).room s m ([.ref m_a, .int v1] : List Value).toArray below meth c H locs 0 0 (MQ below (QV D A (wX m_a m_there_a m_now_a m_kinds_a m_targets_a m_predicates_a m_numbers_a m_puts_a m_codes_a m_weights_a m_sets_a m_picks_a m_classes_a m_steps_a m_told_a cI cZ cB cC m_rules m_changes m_mostTries m_tried m_settled m_found m_isCovered m_covered m_toldMany m_there m_now m_kinds m_targets m_predicates m_numbers m_puts m_codes m_weights m_sets m_picks_r m_classes m_steps m_told)) ([.ref m_a, .int v1] : List Value).toArray s 0 0 A) (F0 m 2 ls []) := by
    intro n2
    induction n2 with
    | zero => intro i2l2 m_picksl2 H locs ls hm; exact nomatch (show none = _ from hm)
    | succ n2 ih2 =>
      intro i2l2 m_picksl2 H locs ls hm hP hD hS hl
      replace hm : mK5_first_B2 v1 (mK5_first_A2) (mK5_first_L2 v1 (mK5_first_A2) n2) i2l2 m_picksl2 = some m_picks_r := hm
      unfold mK5_first_B2 at hm
      refine lv_iload_n hx hb dK5_first_2 rfl (lv_at hl 0 rfl) ?_
      refine lv_iload_n hx hb dK5_first_3 rfl (lv_at hl 2 rfl) ?_
      refine lv_icmp_ge (tgt := 20) hx hb dK5_first_4 (by decide) (fun hc => ?_) (fun hc => ?_)
      · replace hm := ift hm hc
        exact lx2 m_picksl2 _ _ _ hm hP hD hS (lv_sub hl [] rfl)
      · replace hm := iff_ hm hc
        refine lv_aload_n hx hb dK5_first_7 rfl (lv_at hl 1 rfl) ?_
        refine va_get (D := D) (ci := 5) (v := .ref m_picks_a) (C := RK5) (T := TK5) (N := 23) hx hb hts inK5 hown hK hP 0 rfl rfl 18 (by decide) (hts _ wdt3_204) (fun _ h9 => h9) rfl dK5_first_8 ?_
        refine lv_iload_n hx hb dK5_first_11 rfl (lv_at hl 0 rfl) ?_
        refine lv_iload_n hx hb dK5_first_12 rfl (lv_at hl 0 rfl) ?_
        obtain ⟨x1, ex1, hm⟩ := bd1_s hm
        obtain ⟨hix1, ex1⟩ := wrt_s ex1
        refine va_iast hx hb hK hP hD hS 11 0 rfl rfl hix1 dK5_first_13 (fun H locs hP hD hS => ?_)
        rw [ex1] at hP hD
        have hP : va_P D vwCl (wX m_a m_there_a m_now_a m_kinds_a m_targets_a m_predicates_a m_numbers_a m_puts_a m_codes_a m_weights_a m_sets_a m_picks_a m_classes_a m_steps_a m_told_a cI cZ cB cC m_rules m_changes m_mostTries m_tried m_settled m_found m_isCovered m_covered m_toldMany m_there m_now m_kinds m_targets m_predicates m_numbers m_puts m_codes m_weights m_sets x1 m_classes m_steps m_told) H := hP
        have hD : va_D A (wX m_a m_there_a m_now_a m_kinds_a m_targets_a m_predicates_a m_numbers_a m_puts_a m_codes_a m_weights_a m_sets_a m_picks_a m_classes_a m_steps_a m_told_a cI cZ cB cC m_rules m_changes m_mostTries m_tried m_settled m_found m_isCovered m_covered m_toldMany m_there m_now m_kinds m_targets m_predicates m_numbers m_puts m_codes m_weights m_sets x1 m_classes m_steps m_told) := hD
        obtain ⟨x2, ex2, hm⟩ := bd1_s hm
        refine lv_iinc (v := x2) (lv' := [(2, .int x2), (0, .ref m_a), (1, .int v1)]) hx hb dK5_first_14 hl (k := 0) rfl (by rw [← Option.some.inj ex2]; rfl) (by decide) rfl (fun ls hl => ?_)
        refine lv_goto (tgt := 2) hx hb dK5_first_17 (by decide) ?_
        exact ih2 x2 x1 _ _ _ hm hP hD hS (lv_sub hl [0, 1, 2] rfl)
  exact lp2 5000 0 m_picks _ _ _ hm hP hD hS (lv_sub hl [0, 1, 2] rfl)
def mK5_setOf_A4 (i2x4 : Int32) : Option (Int32) :=
  some i2x4
def mK5_setOf_B4 (m_picks : Nat → Int32) (v1 : Int32) (kx4 : Int32 → Option (Int32)) (rc4 : Int32 → Int32 → Option (Int32)) (i2l4 : Int32) (i3l4 : Int32) : Option (Int32) :=
  if v1 ≤ i3l4 then
  (kx4 i2l4)
  else
  (bd1 (rd m_picks 12 i3l4) fun x1 => bd1 (some (i2l4 ||| (1 <<< (x1 &&& 31)))) fun x2 => bd1 (some (i3l4 + 1)) fun x3 => rc4 x2 x3)
def mK5_setOf_L4 (m_picks : Nat → Int32) (v1 : Int32) (kx4 : Int32 → Option (Int32)) : Nat → Int32 → Int32 → Option (Int32)
  | 0, _, _ => none
  | n + 1, i2l4, i3l4 => mK5_setOf_B4 m_picks v1 kx4 (mK5_setOf_L4 m_picks v1 kx4 n) i2l4 i3l4
def mK5_setOf (m_picks : Nat → Int32) (v1 : Int32) : Option (Int32) :=
  mK5_setOf_L4 m_picks v1 (mK5_setOf_A4) 5000 0 0
abbrev rmK5_setOf : Room := { frames := 0, cells := 0, slots := 0, locals := 0 }
set_option maxHeartbeats 4000000 in
set_option maxRecDepth 100000 in
theorem kK5_setOf (l : Launch) (D : va_G) (cI cZ cB cC : ClassId) (sz : Nat) (m_a : Nat) (m_there_a : Nat) (m_now_a : Nat) (m_kinds_a : Nat) (m_targets_a : Nat) (m_predicates_a : Nat) (m_numbers_a : Nat) (m_puts_a : Nat) (m_codes_a : Nat) (m_weights_a : Nat) (m_sets_a : Nat) (m_picks_a : Nat) (m_classes_a : Nat) (m_steps_a : Nat) (m_told_a : Nat) (m_rules : Int32) (m_changes : Int32) (m_mostTries : Int32) (m_tried : Int32) (m_settled : Int32) (m_found : Int32) (m_isCovered : Int32) (m_covered : Int32) (m_toldMany : Int32) (m_there : Nat → Int32) (m_now : Nat → Int32) (m_kinds : Nat → Int32) (m_targets : Nat → Int32) (m_predicates : Nat → Int32) (m_numbers : Nat → Int32) (m_puts : Nat → Int32) (m_codes : Nat → Int32) (m_weights : Nat → Int32) (m_sets : Nat → Int32) (m_picks : Nat → Int32) (m_classes : Nat → Int32) (m_steps : Nat → Int32) (m_told : Nat → Int32) (v1 : Int32) (r0 : Int32) (hm : mK5_setOf m_picks v1 = some r0) : Met l yK5_setOf wsK5_setOf rmK5_setOf (va_Pc [.ref m_a, .int v1] (Pr D (tyL cI cZ cB cC) sz (wX m_a m_there_a m_now_a m_kinds_a m_targets_a m_predicates_a m_numbers_a m_puts_a m_codes_a m_weights_a m_sets_a m_picks_a m_classes_a m_steps_a m_told_a cI cZ cB cC m_rules m_changes m_mostTries m_tried m_settled m_found m_isCovered m_covered m_toldMany m_there m_now m_kinds m_targets m_predicates m_numbers m_puts m_codes m_weights m_sets m_picks m_classes m_steps m_told))) (QI D (va_A (wX m_a m_there_a m_now_a m_kinds_a m_targets_a m_predicates_a m_numbers_a m_puts_a m_codes_a m_weights_a m_sets_a m_picks_a m_classes_a m_steps_a m_told_a cI cZ cB cC m_rules m_changes m_mostTries m_tried m_settled m_found m_isCovered m_covered m_toldMany m_there m_now m_kinds m_targets m_predicates m_numbers m_puts m_codes m_weights m_sets m_picks m_classes m_steps m_told) sz) r0 (wX m_a m_there_a m_now_a m_kinds_a m_targets_a m_predicates_a m_numbers_a m_puts_a m_codes_a m_weights_a m_sets_a m_picks_a m_classes_a m_steps_a m_told_a cI cZ cB cC m_rules m_changes m_mostTries m_tried m_settled m_found m_isCovered m_covered m_toldMany m_there m_now m_kinds m_targets m_predicates m_numbers m_puts m_codes m_weights m_sets m_picks m_classes m_steps m_told)) 0 0 (va_A (wX m_a m_there_a m_now_a m_kinds_a m_targets_a m_predicates_a m_numbers_a m_puts_a m_codes_a m_weights_a m_sets_a m_picks_a m_classes_a m_steps_a m_told_a cI cZ cB cC m_rules m_changes m_mostTries m_tried m_settled m_found m_isCovered m_covered m_toldMany m_there m_now m_kinds m_targets m_predicates m_numbers m_puts m_codes m_weights m_sets m_picks m_classes m_steps m_told) sz) := by
  refine Met.ofW (cc := cK5_setOf) (maxL := 4) (ret := (some .int)) (by decide) rfl ?_
  intro p e s m args below meth c s₁ B hml hv
  obtain ⟨rfl, hsz, hP, hK, hD0, hN⟩ := hv
  have hx := B.exec
  have hb := B.bytes
  have hr := B.returns
  have hts := htsA (atoms_spec (ws := wsK5_setOf) B.pre)
  have hown : s.vm.findClass RK5 = some m.cls := findClass_of_methodNamed B.named
  have hlocks := B.notSynchronized
  subst hsz
  have hD := hD0.self (sz := s.heap.size)
  generalize hAe : va_A (wX m_a m_there_a m_now_a m_kinds_a m_targets_a m_predicates_a m_numbers_a m_puts_a m_codes_a m_weights_a m_sets_a m_picks_a m_classes_a m_steps_a m_told_a cI cZ cB cC m_rules m_changes m_mostTries m_tried m_settled m_found m_isCovered m_covered m_toldMany m_there m_now m_kinds m_targets m_predicates m_numbers m_puts m_codes m_weights m_sets m_picks m_classes m_steps m_told) s.heap.size = A at hD ⊢
  have hA : ∀ q : Nat, s.heap.size ≤ q → A q := fun q h => by rw [← hAe]; exact Or.inr h
  refine kstart (A := A) hP (fun H hP hS => ?_)
  have hl := lv_entry ([.ref m_a, .int v1]) (n := 4) (Nat.le_of_ble_eq_true rfl)
  rw [lg_entry_eq]
  generalize (lg_sl ([.ref m_a, .int v1]) ++ List.replicate (4 - (lg_sl ([.ref m_a, .int v1])).length) Slot.unset).toArray = ls at hl ⊢
  have hl : lv_has ls 4 [(0, .ref m_a), (1, .int v1)] := hl
  unfold mK5_setOf at hm
  refine lv_iconst (v := 0) hx hb dK5_setOf_0 (by decide) ?_
  refine lv_istore_n (lv' := [(2, .int 0), (0, .ref m_a), (1, .int v1)]) hx hb dK5_setOf_1 rfl hl (by decide) rfl (fun ls hl => ?_)
  refine lv_iconst (v := 0) hx hb dK5_setOf_2 (by decide) ?_
  refine lv_istore_n (lv' := [(3, .int 0), (2, .int 0), (0, .ref m_a), (1, .int v1)]) hx hb dK5_setOf_3 rfl hl (by decide) rfl (fun ls hl => ?_)
  have lx4 : ∀ (i2x4 : Int32) (H : Heap) (locs : List Loc) (ls : Array Slot), mK5_setOf_A4 i2x4 = some r0 → va_P D vwCl (wX m_a m_there_a m_now_a m_kinds_a m_targets_a m_predicates_a m_numbers_a m_puts_a m_codes_a m_weights_a m_sets_a m_picks_a m_classes_a m_steps_a m_told_a cI cZ cB cC m_rules m_changes m_mostTries m_tried m_settled m_found m_isCovered m_covered m_toldMany m_there m_now m_kinds m_targets m_predicates m_numbers m_puts m_codes m_weights m_sets m_picks m_classes m_steps m_told) H → va_D A (wX m_a m_there_a m_now_a m_kinds_a m_targets_a m_predicates_a m_numbers_a m_puts_a m_codes_a m_weights_a m_sets_a m_picks_a m_classes_a m_steps_a m_told_a cI cZ cB cC m_rules m_changes m_mostTries m_tried m_settled m_found m_isCovered m_covered m_toldMany m_there m_now m_kinds m_targets m_predicates m_numbers m_puts m_codes m_weights m_sets m_picks m_classes m_steps m_told) → va_S A s.heap H locs → lv_has ls 4 [(2, .int i2x4)] → W p l e (headSpec wsK5_setOf rmK5_setOf).room s m ([.ref m_a, .int v1] : List Value).toArray below meth c H locs 0 0 (MQ below (QI D A r0 (wX m_a m_there_a m_now_a m_kinds_a m_targets_a m_predicates_a m_numbers_a m_puts_a m_codes_a m_weights_a m_sets_a m_picks_a m_classes_a m_steps_a m_told_a cI cZ cB cC m_rules m_changes m_mostTries m_tried m_settled m_found m_isCovered m_covered m_toldMany m_there m_now m_kinds m_targets m_predicates m_numbers m_puts m_codes m_weights m_sets m_picks m_classes m_steps m_told)) ([.ref m_a, .int v1] : List Value).toArray s 0 0 A) (F0 m 26 ls []) := by
    intro i2x4 H locs ls hm hP hD hS hl
    unfold mK5_setOf_A4 at hm
    refine lv_iload_n hx hb dK5_setOf_26 rfl (lv_at hl 0 rfl) ?_
    replace hm := Option.some.inj hm
    subst hm
    exact k_reti hx hb hr hlocks hP hD hS dK5_setOf_27
  have lp4 : ∀ (n4 : Nat) (i2l4 : Int32) (i3l4 : Int32) (H : Heap) (locs : List Loc) (ls : Array Slot), mK5_setOf_L4 m_picks v1 (mK5_setOf_A4) n4 i2l4 i3l4 = some r0 → va_P D vwCl (wX m_a m_there_a m_now_a m_kinds_a m_targets_a m_predicates_a m_numbers_a m_puts_a m_codes_a m_weights_a m_sets_a m_picks_a m_classes_a m_steps_a m_told_a cI cZ cB cC m_rules m_changes m_mostTries m_tried m_settled m_found m_isCovered m_covered m_toldMany m_there m_now m_kinds m_targets m_predicates m_numbers m_puts m_codes m_weights m_sets m_picks m_classes m_steps m_told) H → va_D A (wX m_a m_there_a m_now_a m_kinds_a m_targets_a m_predicates_a m_numbers_a m_puts_a m_codes_a m_weights_a m_sets_a m_picks_a m_classes_a m_steps_a m_told_a cI cZ cB cC m_rules m_changes m_mostTries m_tried m_settled m_found m_isCovered m_covered m_toldMany m_there m_now m_kinds m_targets m_predicates m_numbers m_puts m_codes m_weights m_sets m_picks m_classes m_steps m_told) → va_S A s.heap H locs → lv_has ls 4 [(3, .int i3l4), (2, .int i2l4), (0, .ref m_a), (1, .int v1)] → W p l e (headSpec wsK5_setOf rmK5_setOf).room s m ([.ref m_a, .int v1] : List Value).toArray below meth c H locs 0 0 (MQ below (QI D A r0 (wX m_a m_there_a m_now_a m_kinds_a m_targets_a m_predicates_a m_numbers_a m_puts_a m_codes_a m_weights_a m_sets_a m_picks_a m_classes_a m_steps_a m_told_a cI cZ cB cC m_rules m_changes m_mostTries m_tried m_settled m_found m_isCovered m_covered m_toldMany m_there m_now m_kinds m_targets m_predicates m_numbers m_puts m_codes m_weights m_sets m_picks m_classes m_steps m_told)) ([.ref m_a, .int v1] : List Value).toArray s 0 0 A) (F0 m 4 ls []) := by
    intro n4
    induction n4 with
    | zero => intro i2l4 i3l4 H locs ls hm; exact nomatch (show none = _ from hm)
    | succ n4 ih4 =>
      intro i2l4 i3l4 H locs ls hm hP hD hS hl
      replace hm : mK5_setOf_B4 m_picks v1 (mK5_setOf_A4) (mK5_setOf_L4 m_picks v1 (mK5_setOf_A4) n4) i2l4 i3l4 = some r0 := hm
      unfold mK5_setOf_B4 at hm
      refine lv_iload_n hx hb dK5_setOf_4 rfl (lv_at hl 0 rfl) ?_
      refine lv_iload_n hx hb dK5_setOf_5 rfl (lv_at hl 3 rfl) ?_
      refine lv_icmp_ge (tgt := 26) hx hb dK5_setOf_6 (by decide) (fun hc => ?_) (fun hc => ?_)
      · replace hm := ift hm hc
        exact lx4 i2l4 _ _ _ hm hP hD hS (lv_sub hl [1] rfl)
      · replace hm := iff_ hm hc
        refine lv_iload_n hx hb dK5_setOf_9 rfl (lv_at hl 1 rfl) ?_
        refine lv_iconst (v := 1) hx hb dK5_setOf_10 (by decide) ?_
        refine lv_aload_n hx hb dK5_setOf_11 rfl (lv_at hl 2 rfl) ?_
        refine va_get (D := D) (ci := 5) (v := .ref m_picks_a) (C := RK5) (T := TK5) (N := 23) hx hb hts inK5 hown hK hP 0 rfl rfl 18 (by decide) (hts _ wdt3_204) (fun _ h9 => h9) rfl dK5_setOf_12 ?_
        refine lv_iload_n hx hb dK5_setOf_15 rfl (lv_at hl 0 rfl) ?_
        obtain ⟨x1, ex1, hm⟩ := bd1_s hm
        obtain ⟨hix1, ex1⟩ := rd_s ex1
        refine va_iald hx hb hK hP 11 0 rfl rfl hix1 dK5_setOf_16 ?_
        refine topi ex1 ?_
        refine lv_ishl hx hb dK5_setOf_17 ?_
        refine lv_ior hx hb dK5_setOf_18 ?_
        obtain ⟨x2, ex2, hm⟩ := bd1_s hm
        refine topi (Option.some.inj ex2) ?_
        refine lv_istore_n (lv' := [(2, .int x2), (3, .int i3l4), (0, .ref m_a), (1, .int v1)]) hx hb dK5_setOf_19 rfl hl (by decide) rfl (fun ls hl => ?_)
        obtain ⟨x3, ex3, hm⟩ := bd1_s hm
        refine lv_iinc (v := x3) (lv' := [(3, .int x3), (2, .int x2), (0, .ref m_a), (1, .int v1)]) hx hb dK5_setOf_20 hl (k := 1) rfl (by rw [← Option.some.inj ex3]; rfl) (by decide) rfl (fun ls hl => ?_)
        refine lv_goto (tgt := 4) hx hb dK5_setOf_23 (by decide) ?_
        exact ih4 x2 x3 _ _ _ hm hP hD hS (lv_sub hl [0, 1, 2, 3] rfl)
  exact lp4 5000 0 0 _ _ _ hm hP hD hS (lv_sub hl [0, 1, 2, 3] rfl)
def mK5_hasOneWithin_A4 (i2x4 : Int32) : Option (Int32) :=
  bd1 (bz i2x4) fun x1 => some x1
def mK5_hasOneWithin_B4 (m_found : Int32) (m_sets : Nat → Int32) (v1 : Int32) (kx4 : Int32 → Option (Int32)) (rc4 : Int32 → Int32 → Option (Int32)) (i2l4 : Int32) (i3l4 : Int32) : Option (Int32) :=
  if m_found ≤ i3l4 then
  (kx4 i2l4)
  else
  (if i2l4 = 0 then
    (bd1 (rd m_sets 31 i3l4) fun x3 => bd1 (rd m_sets 31 i3l4) fun x4 => if (x3 &&& v1) = x4 then
      (bd1 (some (i3l4 + 1)) fun x6 => rc4 1 x6)
      else
      (bd1 (some (i3l4 + 1)) fun x5 => rc4 0 x5))
    else
    (bd1 (some (i3l4 + 1)) fun x2 => rc4 1 x2))
def mK5_hasOneWithin_L4 (m_found : Int32) (m_sets : Nat → Int32) (v1 : Int32) (kx4 : Int32 → Option (Int32)) : Nat → Int32 → Int32 → Option (Int32)
  | 0, _, _ => none
  | n + 1, i2l4, i3l4 => mK5_hasOneWithin_B4 m_found m_sets v1 kx4 (mK5_hasOneWithin_L4 m_found m_sets v1 kx4 n) i2l4 i3l4
def mK5_hasOneWithin (m_found : Int32) (m_sets : Nat → Int32) (v1 : Int32) : Option (Int32) :=
  mK5_hasOneWithin_L4 m_found m_sets v1 (mK5_hasOneWithin_A4) 5000 0 0
abbrev rmK5_hasOneWithin : Room := { frames := 0, cells := 0, slots := 0, locals := 0 }
set_option maxHeartbeats 4000000 in
set_option maxRecDepth 100000 in
theorem kK5_hasOneWithin (l : Launch) (D : va_G) (cI cZ cB cC : ClassId) (sz : Nat) (m_a : Nat) (m_there_a : Nat) (m_now_a : Nat) (m_kinds_a : Nat) (m_targets_a : Nat) (m_predicates_a : Nat) (m_numbers_a : Nat) (m_puts_a : Nat) (m_codes_a : Nat) (m_weights_a : Nat) (m_sets_a : Nat) (m_picks_a : Nat) (m_classes_a : Nat) (m_steps_a : Nat) (m_told_a : Nat) (m_rules : Int32) (m_changes : Int32) (m_mostTries : Int32) (m_tried : Int32) (m_settled : Int32) (m_found : Int32) (m_isCovered : Int32) (m_covered : Int32) (m_toldMany : Int32) (m_there : Nat → Int32) (m_now : Nat → Int32) (m_kinds : Nat → Int32) (m_targets : Nat → Int32) (m_predicates : Nat → Int32) (m_numbers : Nat → Int32) (m_puts : Nat → Int32) (m_codes : Nat → Int32) (m_weights : Nat → Int32) (m_sets : Nat → Int32) (m_picks : Nat → Int32) (m_classes : Nat → Int32) (m_steps : Nat → Int32) (m_told : Nat → Int32) (v1 : Int32) (r0 : Int32) (hm : mK5_hasOneWithin m_found m_sets v1 = some r0) : Met l yK5_hasOneWithin wsK5_hasOneWithin rmK5_hasOneWithin (va_Pc [.ref m_a, .int v1] (Pr D (tyL cI cZ cB cC) sz (wX m_a m_there_a m_now_a m_kinds_a m_targets_a m_predicates_a m_numbers_a m_puts_a m_codes_a m_weights_a m_sets_a m_picks_a m_classes_a m_steps_a m_told_a cI cZ cB cC m_rules m_changes m_mostTries m_tried m_settled m_found m_isCovered m_covered m_toldMany m_there m_now m_kinds m_targets m_predicates m_numbers m_puts m_codes m_weights m_sets m_picks m_classes m_steps m_told))) (QI D (va_A (wX m_a m_there_a m_now_a m_kinds_a m_targets_a m_predicates_a m_numbers_a m_puts_a m_codes_a m_weights_a m_sets_a m_picks_a m_classes_a m_steps_a m_told_a cI cZ cB cC m_rules m_changes m_mostTries m_tried m_settled m_found m_isCovered m_covered m_toldMany m_there m_now m_kinds m_targets m_predicates m_numbers m_puts m_codes m_weights m_sets m_picks m_classes m_steps m_told) sz) r0 (wX m_a m_there_a m_now_a m_kinds_a m_targets_a m_predicates_a m_numbers_a m_puts_a m_codes_a m_weights_a m_sets_a m_picks_a m_classes_a m_steps_a m_told_a cI cZ cB cC m_rules m_changes m_mostTries m_tried m_settled m_found m_isCovered m_covered m_toldMany m_there m_now m_kinds m_targets m_predicates m_numbers m_puts m_codes m_weights m_sets m_picks m_classes m_steps m_told)) 0 0 (va_A (wX m_a m_there_a m_now_a m_kinds_a m_targets_a m_predicates_a m_numbers_a m_puts_a m_codes_a m_weights_a m_sets_a m_picks_a m_classes_a m_steps_a m_told_a cI cZ cB cC m_rules m_changes m_mostTries m_tried m_settled m_found m_isCovered m_covered m_toldMany m_there m_now m_kinds m_targets m_predicates m_numbers m_puts m_codes m_weights m_sets m_picks m_classes m_steps m_told) sz) := by
  refine Met.ofW (cc := cK5_hasOneWithin) (maxL := 4) (ret := (some .boolean)) (by decide) rfl ?_
  intro p e s m args below meth c s₁ B hml hv
  obtain ⟨rfl, hsz, hP, hK, hD0, hN⟩ := hv
  have hx := B.exec
  have hb := B.bytes
  have hr := B.returns
  have hts := htsA (atoms_spec (ws := wsK5_hasOneWithin) B.pre)
  have hown : s.vm.findClass RK5 = some m.cls := findClass_of_methodNamed B.named
  have hlocks := B.notSynchronized
  subst hsz
  have hD := hD0.self (sz := s.heap.size)
  generalize hAe : va_A (wX m_a m_there_a m_now_a m_kinds_a m_targets_a m_predicates_a m_numbers_a m_puts_a m_codes_a m_weights_a m_sets_a m_picks_a m_classes_a m_steps_a m_told_a cI cZ cB cC m_rules m_changes m_mostTries m_tried m_settled m_found m_isCovered m_covered m_toldMany m_there m_now m_kinds m_targets m_predicates m_numbers m_puts m_codes m_weights m_sets m_picks m_classes m_steps m_told) s.heap.size = A at hD ⊢
  have hA : ∀ q : Nat, s.heap.size ≤ q → A q := fun q h => by rw [← hAe]; exact Or.inr h
  refine kstart (A := A) hP (fun H hP hS => ?_)
  have hl := lv_entry ([.ref m_a, .int v1]) (n := 4) (Nat.le_of_ble_eq_true rfl)
  rw [lg_entry_eq]
  generalize (lg_sl ([.ref m_a, .int v1]) ++ List.replicate (4 - (lg_sl ([.ref m_a, .int v1])).length) Slot.unset).toArray = ls at hl ⊢
  have hl : lv_has ls 4 [(0, .ref m_a), (1, .int v1)] := hl
  unfold mK5_hasOneWithin at hm
  refine lv_iconst (v := 0) hx hb dK5_hasOneWithin_0 (by decide) ?_
  refine lv_istore_n (lv' := [(2, .int 0), (0, .ref m_a), (1, .int v1)]) hx hb dK5_hasOneWithin_1 rfl hl (by decide) rfl (fun ls hl => ?_)
  refine lv_iconst (v := 0) hx hb dK5_hasOneWithin_2 (by decide) ?_
  refine lv_istore_n (lv' := [(3, .int 0), (2, .int 0), (0, .ref m_a), (1, .int v1)]) hx hb dK5_hasOneWithin_3 rfl hl (by decide) rfl (fun ls hl => ?_)
  have lx4 : ∀ (i2x4 : Int32) (H : Heap) (locs : List Loc) (ls : Array Slot), mK5_hasOneWithin_A4 i2x4 = some r0 → va_P D vwCl (wX m_a m_there_a m_now_a m_kinds_a m_targets_a m_predicates_a m_numbers_a m_puts_a m_codes_a m_weights_a m_sets_a m_picks_a m_classes_a m_steps_a m_told_a cI cZ cB cC m_rules m_changes m_mostTries m_tried m_settled m_found m_isCovered m_covered m_toldMany m_there m_now m_kinds m_targets m_predicates m_numbers m_puts m_codes m_weights m_sets m_picks m_classes m_steps m_told) H → va_D A (wX m_a m_there_a m_now_a m_kinds_a m_targets_a m_predicates_a m_numbers_a m_puts_a m_codes_a m_weights_a m_sets_a m_picks_a m_classes_a m_steps_a m_told_a cI cZ cB cC m_rules m_changes m_mostTries m_tried m_settled m_found m_isCovered m_covered m_toldMany m_there m_now m_kinds m_targets m_predicates m_numbers m_puts m_codes m_weights m_sets m_picks m_classes m_steps m_told) → va_S A s.heap H locs → lv_has ls 4 [(2, .int i2x4)] → W p l e (headSpec wsK5_hasOneWithin rmK5_hasOneWithin).room s m ([.ref m_a, .int v1] : List Value).toArray below meth c H locs 0 0 (MQ below (QI D A r0 (wX m_a m_there_a m_now_a m_kinds_a m_targets_a m_predicates_a m_numbers_a m_puts_a m_codes_a m_weights_a m_sets_a m_picks_a m_classes_a m_steps_a m_told_a cI cZ cB cC m_rules m_changes m_mostTries m_tried m_settled m_found m_isCovered m_covered m_toldMany m_there m_now m_kinds m_targets m_predicates m_numbers m_puts m_codes m_weights m_sets m_picks m_classes m_steps m_told)) ([.ref m_a, .int v1] : List Value).toArray s 0 0 A) (F0 m 45 ls []) := by
    intro i2x4 H locs ls hm hP hD hS hl
    unfold mK5_hasOneWithin_A4 at hm
    refine lv_iload_n hx hb dK5_hasOneWithin_45 rfl (lv_at hl 0 rfl) ?_
    obtain ⟨x1, ex1, hm⟩ := bd1_s hm
    obtain ⟨eex1, hzx1⟩ := bz_s ex1
    refine topi eex1 ?_
    replace hm := Option.some.inj hm
    subst hm
    exact k_retz hx hb hr hlocks (bz_n hzx1) hP hD hS dK5_hasOneWithin_46
  have lp4 : ∀ (n4 : Nat) (i2l4 : Int32) (i3l4 : Int32) (H : Heap) (locs : List Loc) (ls : Array Slot), mK5_hasOneWithin_L4 m_found m_sets v1 (mK5_hasOneWithin_A4) n4 i2l4 i3l4 = some r0 → va_P D vwCl (wX m_a m_there_a m_now_a m_kinds_a m_targets_a m_predicates_a m_numbers_a m_puts_a m_codes_a m_weights_a m_sets_a m_picks_a m_classes_a m_steps_a m_told_a cI cZ cB cC m_rules m_changes m_mostTries m_tried m_settled m_found m_isCovered m_covered m_toldMany m_there m_now m_kinds m_targets m_predicates m_numbers m_puts m_codes m_weights m_sets m_picks m_classes m_steps m_told) H → va_D A (wX m_a m_there_a m_now_a m_kinds_a m_targets_a m_predicates_a m_numbers_a m_puts_a m_codes_a m_weights_a m_sets_a m_picks_a m_classes_a m_steps_a m_told_a cI cZ cB cC m_rules m_changes m_mostTries m_tried m_settled m_found m_isCovered m_covered m_toldMany m_there m_now m_kinds m_targets m_predicates m_numbers m_puts m_codes m_weights m_sets m_picks m_classes m_steps m_told) → va_S A s.heap H locs → lv_has ls 4 [(3, .int i3l4), (2, .int i2l4), (0, .ref m_a), (1, .int v1)] → W p l e (headSpec wsK5_hasOneWithin rmK5_hasOneWithin).room s m ([.ref m_a, .int v1] : List Value).toArray below meth c H locs 0 0 (MQ below (QI D A r0 (wX m_a m_there_a m_now_a m_kinds_a m_targets_a m_predicates_a m_numbers_a m_puts_a m_codes_a m_weights_a m_sets_a m_picks_a m_classes_a m_steps_a m_told_a cI cZ cB cC m_rules m_changes m_mostTries m_tried m_settled m_found m_isCovered m_covered m_toldMany m_there m_now m_kinds m_targets m_predicates m_numbers m_puts m_codes m_weights m_sets m_picks m_classes m_steps m_told)) ([.ref m_a, .int v1] : List Value).toArray s 0 0 A) (F0 m 4 ls []) := by
    intro n4
    induction n4 with
    | zero => intro i2l4 i3l4 H locs ls hm; exact nomatch (show none = _ from hm)
    | succ n4 ih4 =>
      intro i2l4 i3l4 H locs ls hm hP hD hS hl
      replace hm : mK5_hasOneWithin_B4 m_found m_sets v1 (mK5_hasOneWithin_A4) (mK5_hasOneWithin_L4 m_found m_sets v1 (mK5_hasOneWithin_A4) n4) i2l4 i3l4 = some r0 := hm
      unfold mK5_hasOneWithin_B4 at hm
      refine lv_iload_n hx hb dK5_hasOneWithin_4 rfl (lv_at hl 0 rfl) ?_
      refine lv_aload_n hx hb dK5_hasOneWithin_5 rfl (lv_at hl 2 rfl) ?_
      refine va_get (D := D) (ci := 5) (v := .int m_found) (C := RK5) (T := TK5) (N := 23) hx hb hts inK5 hown hK hP 0 rfl rfl 14 (by decide) (hts _ wdt3_200) (fun _ h9 => h9) rfl dK5_hasOneWithin_6 ?_
      refine lv_icmp_ge (tgt := 45) hx hb dK5_hasOneWithin_9 (by decide) (fun hc => ?_) (fun hc => ?_)
      · replace hm := ift hm hc
        exact lx4 i2l4 _ _ _ hm hP hD hS (lv_sub hl [1] rfl)
      · replace hm := iff_ hm hc
        refine lv_iload_n hx hb dK5_hasOneWithin_12 rfl (lv_at hl 1 rfl) ?_
        refine lv_if_ne (tgt := 33) hx hb dK5_hasOneWithin_13 (by decide) (fun hc => ?_) (fun hc => ?_)
        · replace hm := iff_ hm hc
          refine lv_iconst (v := 1) hx hb dK5_hasOneWithin_33 (by decide) ?_
          refine lv_goto (tgt := 38) hx hb dK5_hasOneWithin_34 (by decide) ?_
          refine lv_istore_n (lv' := [(2, .int 1), (3, .int i3l4), (0, .ref m_a), (1, .int v1)]) hx hb dK5_hasOneWithin_38 rfl hl (by decide) rfl (fun ls hl => ?_)
          obtain ⟨x2, ex2, hm⟩ := bd1_s hm
          refine lv_iinc (v := x2) (lv' := [(3, .int x2), (2, .int 1), (0, .ref m_a), (1, .int v1)]) hx hb dK5_hasOneWithin_39 hl (k := 1) rfl (by rw [← Option.some.inj ex2]; rfl) (by decide) rfl (fun ls hl => ?_)
          refine lv_goto (tgt := 4) hx hb dK5_hasOneWithin_42 (by decide) ?_
          exact ih4 1 x2 _ _ _ hm hP hD hS (lv_sub hl [0, 1, 2, 3] rfl)
        · replace hm := ift hm hc
          refine lv_aload_n hx hb dK5_hasOneWithin_16 rfl (lv_at hl 2 rfl) ?_
          refine va_get (D := D) (ci := 5) (v := .ref m_sets_a) (C := RK5) (T := TK5) (N := 23) hx hb hts inK5 hown hK hP 0 rfl rfl 15 (by decide) (hts _ wdt3_201) (fun _ h9 => h9) rfl dK5_hasOneWithin_17 ?_
          refine lv_iload_n hx hb dK5_hasOneWithin_20 rfl (lv_at hl 0 rfl) ?_
          obtain ⟨x3, ex3, hm⟩ := bd1_s hm
          obtain ⟨hix3, ex3⟩ := rd_s ex3
          refine va_iald hx hb hK hP 10 0 rfl rfl hix3 dK5_hasOneWithin_21 ?_
          refine topi ex3 ?_
          refine lv_iload_n hx hb dK5_hasOneWithin_22 rfl (lv_at hl 3 rfl) ?_
          refine lv_iand hx hb dK5_hasOneWithin_23 ?_
          refine lv_aload_n hx hb dK5_hasOneWithin_24 rfl (lv_at hl 2 rfl) ?_
          refine va_get (D := D) (ci := 5) (v := .ref m_sets_a) (C := RK5) (T := TK5) (N := 23) hx hb hts inK5 hown hK hP 0 rfl rfl 15 (by decide) (hts _ wdt3_201) (fun _ h9 => h9) rfl dK5_hasOneWithin_25 ?_
          refine lv_iload_n hx hb dK5_hasOneWithin_28 rfl (lv_at hl 0 rfl) ?_
          obtain ⟨x4, ex4, hm⟩ := bd1_s hm
          obtain ⟨hix4, ex4⟩ := rd_s ex4
          refine va_iald hx hb hK hP 10 0 rfl rfl hix4 dK5_hasOneWithin_29 ?_
          refine topi ex4 ?_
          refine lv_icmp_ne (tgt := 37) hx hb dK5_hasOneWithin_30 (by decide) (fun hc => ?_) (fun hc => ?_)
          · replace hm := iff_ hm hc
            refine lv_iconst (v := 0) hx hb dK5_hasOneWithin_37 (by decide) ?_
            refine lv_istore_n (lv' := [(2, .int 0), (3, .int i3l4), (0, .ref m_a), (1, .int v1)]) hx hb dK5_hasOneWithin_38 rfl hl (by decide) rfl (fun ls hl => ?_)
            obtain ⟨x5, ex5, hm⟩ := bd1_s hm
            refine lv_iinc (v := x5) (lv' := [(3, .int x5), (2, .int 0), (0, .ref m_a), (1, .int v1)]) hx hb dK5_hasOneWithin_39 hl (k := 1) rfl (by rw [← Option.some.inj ex5]; rfl) (by decide) rfl (fun ls hl => ?_)
            refine lv_goto (tgt := 4) hx hb dK5_hasOneWithin_42 (by decide) ?_
            exact ih4 0 x5 _ _ _ hm hP hD hS (lv_sub hl [0, 1, 2, 3] rfl)
          · replace hm := ift hm hc
            refine lv_iconst (v := 1) hx hb dK5_hasOneWithin_33 (by decide) ?_
            refine lv_goto (tgt := 38) hx hb dK5_hasOneWithin_34 (by decide) ?_
            refine lv_istore_n (lv' := [(2, .int 1), (3, .int i3l4), (0, .ref m_a), (1, .int v1)]) hx hb dK5_hasOneWithin_38 rfl hl (by decide) rfl (fun ls hl => ?_)
            obtain ⟨x6, ex6, hm⟩ := bd1_s hm
            refine lv_iinc (v := x6) (lv' := [(3, .int x6), (2, .int 1), (0, .ref m_a), (1, .int v1)]) hx hb dK5_hasOneWithin_39 hl (k := 1) rfl (by rw [← Option.some.inj ex6]; rfl) (by decide) rfl (fun ls hl => ?_)
            refine lv_goto (tgt := 4) hx hb dK5_hasOneWithin_42 (by decide) ?_
            exact ih4 1 x6 _ _ _ hm hP hD hS (lv_sub hl [0, 1, 2, 3] rfl)
  exact lp4 5000 0 0 _ _ _ hm hP hD hS (lv_sub hl [0, 1, 2, 3] rfl)
def mK5_look (m_changes : Int32) (m_mostTries : Int32) (m_tried : Int32) (m_settled : Int32) (m_found : Int32) (m_there : Nat → Int32) (m_now : Nat → Int32) (m_kinds : Nat → Int32) (m_targets : Nat → Int32) (m_predicates : Nat → Int32) (m_numbers : Nat → Int32) (m_puts : Nat → Int32) (m_codes : Nat → Int32) (m_sets : Nat → Int32) (m_classes : Nat → Int32) (v1 : Int32) (v2 : Int32) (v3 : Int32) : Option (Int32 × Int32 × Int32 × (Nat → Int32) × (Nat → Int32) × (Nat → Int32)) :=
  if m_tried = m_mostTries then
  (some (m_tried, 0, m_found, m_now, m_sets, m_classes))
  else
  (bd1 (some (m_tried + 1)) fun x1 => bd1 (mK5_begin m_changes m_there m_now m_puts m_codes v1) fun x2 => bd2 (mK5_isResult x2 m_kinds m_targets m_predicates m_numbers m_classes v2 v3) fun x4 x5 => if x4 = 0 then
    (bd1 (wrt m_sets 31 m_found v1) fun x7 => bd1 (some (m_found + 1)) fun x8 => if 30 ≤ x8 then
      (some (x1, 0, x8, x2, x7, x5))
      else
      (some (x1, 1, x8, x2, x7, x5)))
    else
    (some (x1, m_settled, m_found, x2, m_sets, x5)))
abbrev rmK5_look : Room := { frames := 4, cells := 0, slots := 0, locals := 97 }
set_option maxHeartbeats 4000000 in
set_option maxRecDepth 100000 in
theorem kK5_look (l : Launch) (D : va_G) (cI cZ cB cC : ClassId) (sz : Nat) (m_a : Nat) (m_there_a : Nat) (m_now_a : Nat) (m_kinds_a : Nat) (m_targets_a : Nat) (m_predicates_a : Nat) (m_numbers_a : Nat) (m_puts_a : Nat) (m_codes_a : Nat) (m_weights_a : Nat) (m_sets_a : Nat) (m_picks_a : Nat) (m_classes_a : Nat) (m_steps_a : Nat) (m_told_a : Nat) (m_rules : Int32) (m_changes : Int32) (m_mostTries : Int32) (m_tried : Int32) (m_settled : Int32) (m_found : Int32) (m_isCovered : Int32) (m_covered : Int32) (m_toldMany : Int32) (m_there : Nat → Int32) (m_now : Nat → Int32) (m_kinds : Nat → Int32) (m_targets : Nat → Int32) (m_predicates : Nat → Int32) (m_numbers : Nat → Int32) (m_puts : Nat → Int32) (m_codes : Nat → Int32) (m_weights : Nat → Int32) (m_sets : Nat → Int32) (m_picks : Nat → Int32) (m_classes : Nat → Int32) (m_steps : Nat → Int32) (m_told : Nat → Int32) (v1 : Int32) (v2 : Int32) (v3 : Int32) (m_tried_r : Int32) (m_settled_r : Int32) (m_found_r : Int32) (m_now_r : Nat → Int32) (m_sets_r : Nat → Int32) (m_classes_r : Nat → Int32) (hm : mK5_look m_changes m_mostTries m_tried m_settled m_found m_there m_now m_kinds m_targets m_predicates m_numbers m_puts m_codes m_sets m_classes v1 v2 v3 = some (m_tried_r, m_settled_r, m_found_r, m_now_r, m_sets_r, m_classes_r)) : Met l yK5_look wsK5_look rmK5_look (va_Pc [.ref m_a, .int v1, .int v2, .int v3] (Pr D (tyL cI cZ cB cC) sz (wX m_a m_there_a m_now_a m_kinds_a m_targets_a m_predicates_a m_numbers_a m_puts_a m_codes_a m_weights_a m_sets_a m_picks_a m_classes_a m_steps_a m_told_a cI cZ cB cC m_rules m_changes m_mostTries m_tried m_settled m_found m_isCovered m_covered m_toldMany m_there m_now m_kinds m_targets m_predicates m_numbers m_puts m_codes m_weights m_sets m_picks m_classes m_steps m_told))) (QV D (va_A (wX m_a m_there_a m_now_a m_kinds_a m_targets_a m_predicates_a m_numbers_a m_puts_a m_codes_a m_weights_a m_sets_a m_picks_a m_classes_a m_steps_a m_told_a cI cZ cB cC m_rules m_changes m_mostTries m_tried m_settled m_found m_isCovered m_covered m_toldMany m_there m_now m_kinds m_targets m_predicates m_numbers m_puts m_codes m_weights m_sets m_picks m_classes m_steps m_told) sz) (wX m_a m_there_a m_now_a m_kinds_a m_targets_a m_predicates_a m_numbers_a m_puts_a m_codes_a m_weights_a m_sets_a m_picks_a m_classes_a m_steps_a m_told_a cI cZ cB cC m_rules m_changes m_mostTries m_tried_r m_settled_r m_found_r m_isCovered m_covered m_toldMany m_there m_now_r m_kinds m_targets m_predicates m_numbers m_puts m_codes m_weights m_sets_r m_picks m_classes_r m_steps m_told)) 0 0 (va_A (wX m_a m_there_a m_now_a m_kinds_a m_targets_a m_predicates_a m_numbers_a m_puts_a m_codes_a m_weights_a m_sets_a m_picks_a m_classes_a m_steps_a m_told_a cI cZ cB cC m_rules m_changes m_mostTries m_tried m_settled m_found m_isCovered m_covered m_toldMany m_there m_now m_kinds m_targets m_predicates m_numbers m_puts m_codes m_weights m_sets m_picks m_classes m_steps m_told) sz) := by
  refine Met.ofW (cc := cK5_look) (maxL := 4) (ret := none) (by decide) rfl ?_
  intro p e s m args below meth c s₁ B hml hv
  obtain ⟨rfl, hsz, hP, hK, hD0, hN⟩ := hv
  have hx := B.exec
  have hb := B.bytes
  have hr := B.returns
  have hts := htsA (atoms_spec (ws := wsK5_look) B.pre)
  have hown : s.vm.findClass RK5 = some m.cls := findClass_of_methodNamed B.named
  have hlocks := B.notSynchronized
  subst hsz
  have hD := hD0.self (sz := s.heap.size)
  generalize hAe : va_A (wX m_a m_there_a m_now_a m_kinds_a m_targets_a m_predicates_a m_numbers_a m_puts_a m_codes_a m_weights_a m_sets_a m_picks_a m_classes_a m_steps_a m_told_a cI cZ cB cC m_rules m_changes m_mostTries m_tried m_settled m_found m_isCovered m_covered m_toldMany m_there m_now m_kinds m_targets m_predicates m_numbers m_puts m_codes m_weights m_sets m_picks m_classes m_steps m_told) s.heap.size = A at hD ⊢
  have hA : ∀ q : Nat, s.heap.size ≤ q → A q := fun q h => by rw [← hAe]; exact Or.inr h
  refine kstart (A := A) hP (fun H hP hS => ?_)
  have hl := lv_entry ([.ref m_a, .int v1, .int v2, .int v3]) (n := 4) (Nat.le_of_ble_eq_true rfl)
  rw [lg_entry_eq]
  generalize (lg_sl ([.ref m_a, .int v1, .int v2, .int v3]) ++ List.replicate (4 - (lg_sl ([.ref m_a, .int v1, .int v2, .int v3])).length) Slot.unset).toArray = ls at hl ⊢
  have hl : lv_has ls 4 [(0, .ref m_a), (1, .int v1), (2, .int v2), (3, .int v3)] := hl
  unfold mK5_look at hm
  refine lv_aload_n hx hb dK5_look_0 rfl (lv_at hl 0 rfl) ?_
  refine va_get (D := D) (ci := 5) (v := .int m_tried) (C := RK5) (T := TK5) (N := 23) hx hb hts inK5 hown hK hP 0 rfl rfl 12 (by decide) (hts _ wdt3_198) (fun _ h9 => h9) rfl dK5_look_1 ?_
  refine lv_aload_n hx hb dK5_look_4 rfl (lv_at hl 0 rfl) ?_
  refine va_get (D := D) (ci := 5) (v := .int m_mostTries) (C := RK5) (T := TK5) (N := 23) hx hb hts inK5 hown hK hP 0 rfl rfl 11 (by decide) (hts _ wdt3_197) (fun _ h9 => h9) rfl dK5_look_5 ?_
  refine lv_icmp_ne (tgt := 17) hx hb dK5_look_8 (by decide) (fun hc => ?_) (fun hc => ?_)
  · replace hm := iff_ hm hc
    refine lv_aload_n hx hb dK5_look_17 rfl (lv_at hl 0 rfl) ?_
    refine lv_dup hx hb dK5_look_18 rfl ?_
    refine va_get (D := D) (ci := 5) (v := .int m_tried) (C := RK5) (T := TK5) (N := 23) hx hb hts inK5 hown hK hP 0 rfl rfl 12 (by decide) (hts _ wdt3_198) (fun _ h9 => h9) rfl dK5_look_19 ?_
    refine lv_iconst (v := 1) hx hb dK5_look_22 (by decide) ?_
    refine lv_iadd hx hb dK5_look_23 ?_
    obtain ⟨x1, ex1, hm⟩ := bd1_s hm
    refine topi (Option.some.inj ex1) ?_
    refine va_put (D := D) (ci := 5) (v := .int x1) (ty := .int) (C := RK5) (T := TK5) (N := 23) hx hb hts inK5 tyK5 tyK5_ok nmK5 hown hK hP hD hS 0 rfl rfl 12 (by decide) (hts _ wdt3_198) (fun _ h9 => h9) rfl (by decide +kernel) rfl rfl (Nat.le_of_ble_eq_true rfl) dK5_look_24 (fun H locs hP hD hS => ?_)
    have hP : va_P D vwCl (wX m_a m_there_a m_now_a m_kinds_a m_targets_a m_predicates_a m_numbers_a m_puts_a m_codes_a m_weights_a m_sets_a m_picks_a m_classes_a m_steps_a m_told_a cI cZ cB cC m_rules m_changes m_mostTries x1 m_settled m_found m_isCovered m_covered m_toldMany m_there m_now m_kinds m_targets m_predicates m_numbers m_puts m_codes m_weights m_sets m_picks m_classes m_steps m_told) H := hP
    have hD : va_D A (wX m_a m_there_a m_now_a m_kinds_a m_targets_a m_predicates_a m_numbers_a m_puts_a m_codes_a m_weights_a m_sets_a m_picks_a m_classes_a m_steps_a m_told_a cI cZ cB cC m_rules m_changes m_mostTries x1 m_settled m_found m_isCovered m_covered m_toldMany m_there m_now m_kinds m_targets m_predicates m_numbers m_puts m_codes m_weights m_sets m_picks m_classes m_steps m_told) := hD
    refine lv_aload_n hx hb dK5_look_27 rfl (lv_at hl 0 rfl) ?_
    refine lv_iload_n hx hb dK5_look_28 rfl (lv_at hl 1 rfl) ?_
    obtain ⟨x2, ec3, hm⟩ := bd1_s hm
    have hPc := hP.sub (ws' := (wX m_a m_there_a m_now_a m_kinds_a m_targets_a m_predicates_a m_numbers_a m_puts_a m_codes_a m_weights_a m_sets_a m_picks_a m_classes_a m_steps_a m_told_a cI cZ cB cC m_rules m_changes m_mostTries x1 m_settled m_found m_isCovered m_covered m_toldMany m_there m_now m_kinds m_targets m_predicates m_numbers m_puts m_codes m_weights m_sets m_picks m_classes m_steps m_told)) [0, 1, 2, 3, 4, 5, 6, 7, 8, 9, 10, 11, 12, 13, 14] rfl
    have hDc := hD.sub (ws' := (wX m_a m_there_a m_now_a m_kinds_a m_targets_a m_predicates_a m_numbers_a m_puts_a m_codes_a m_weights_a m_sets_a m_picks_a m_classes_a m_steps_a m_told_a cI cZ cB cC m_rules m_changes m_mostTries x1 m_settled m_found m_isCovered m_covered m_toldMany m_there m_now m_kinds m_targets m_predicates m_numbers m_puts m_codes m_weights m_sets m_picks m_classes m_steps m_told)) [0, 1, 2, 3, 4, 5, 6, 7, 8, 9, 10, 11, 12, 13, 14] (by decide) rfl
    refine k_callv (wr := []) (w1 := (wX m_a m_there_a m_now_a m_kinds_a m_targets_a m_predicates_a m_numbers_a m_puts_a m_codes_a m_weights_a m_sets_a m_picks_a m_classes_a m_steps_a m_told_a cI cZ cB cC m_rules m_changes m_mostTries x1 m_settled m_found m_isCovered m_covered m_toldMany m_there x2 m_kinds m_targets m_predicates m_numbers m_puts m_codes m_weights m_sets m_picks m_classes m_steps m_told)) (ws' := (wX m_a m_there_a m_now_a m_kinds_a m_targets_a m_predicates_a m_numbers_a m_puts_a m_codes_a m_weights_a m_sets_a m_picks_a m_classes_a m_steps_a m_told_a cI cZ cB cC m_rules m_changes m_mostTries x1 m_settled m_found m_isCovered m_covered m_toldMany m_there x2 m_kinds m_targets m_predicates m_numbers m_puts m_codes m_weights m_sets m_picks m_classes m_steps m_told)) (va_runV (As := [.int v1]) (rest := []) ⟨hx, hb, hml, hown, hts⟩ (kK5_begin l D cI cZ cB cC H.size m_a m_there_a m_now_a m_kinds_a m_targets_a m_predicates_a m_numbers_a m_puts_a m_codes_a m_weights_a m_sets_a m_picks_a m_classes_a m_steps_a m_told_a m_rules m_changes m_mostTries x1 m_settled m_found m_isCovered m_covered m_toldMany m_there m_now m_kinds m_targets m_predicates m_numbers m_puts m_codes m_weights m_sets m_picks m_classes m_steps m_told v1 x2 ec3) (cwV 1 hts (gdV wdt4_41 wdt4_43 wds1_12 wdt1_10 gkK5_begin) rfl rfl rfl (by decide +kernel) ⟨Nat.le_of_ble_eq_true rfl, Nat.le_of_ble_eq_true rfl⟩) ⟨Pr_blind, va_recv hK hPc (ci := 5) (q0 := 0) rfl rfl, fun U hU hW => ⟨rfl, Pr_at hK hN hPc hDc hU hW⟩⟩ rfl rfl hl.1 rfl (lv_room (Nat.le_of_ble_eq_true rfl)) dK5_look_29 ⟨Nat.le_of_ble_eq_true rfl, Nat.le_of_ble_eq_true rfl⟩) hP hD hS hA [0, 1, 2, 3, 4, 5, 6, 7, 8, 9, 10, 11, 12, 13, 14] [] [0, 1, 2, 3, 4, 5, 6, 7, 8, 9, 10, 11, 12, 13, 14] rfl rfl (by decide) (by decide) (by decide) rfl (fun H locs hP hD hS => ?_)
    refine lv_aload_n hx hb dK5_look_32 rfl (lv_at hl 0 rfl) ?_
    refine lv_iload_n hx hb dK5_look_33 rfl (lv_at hl 2 rfl) ?_
    refine lv_iload_n hx hb dK5_look_34 rfl (lv_at hl 3 rfl) ?_
    obtain ⟨x4, x5, ec6, hm⟩ := bd2_s hm
    have hPc := hP.sub (ws' := (wX m_a m_there_a m_now_a m_kinds_a m_targets_a m_predicates_a m_numbers_a m_puts_a m_codes_a m_weights_a m_sets_a m_picks_a m_classes_a m_steps_a m_told_a cI cZ cB cC m_rules m_changes m_mostTries x1 m_settled m_found m_isCovered m_covered m_toldMany m_there x2 m_kinds m_targets m_predicates m_numbers m_puts m_codes m_weights m_sets m_picks m_classes m_steps m_told)) [0, 1, 2, 3, 4, 5, 6, 7, 8, 9, 10, 11, 12, 13, 14] rfl
    have hDc := hD.sub (ws' := (wX m_a m_there_a m_now_a m_kinds_a m_targets_a m_predicates_a m_numbers_a m_puts_a m_codes_a m_weights_a m_sets_a m_picks_a m_classes_a m_steps_a m_told_a cI cZ cB cC m_rules m_changes m_mostTries x1 m_settled m_found m_isCovered m_covered m_toldMany m_there x2 m_kinds m_targets m_predicates m_numbers m_puts m_codes m_weights m_sets m_picks m_classes m_steps m_told)) [0, 1, 2, 3, 4, 5, 6, 7, 8, 9, 10, 11, 12, 13, 14] (by decide) rfl
    refine k_calli (wr := []) (w1 := (wX m_a m_there_a m_now_a m_kinds_a m_targets_a m_predicates_a m_numbers_a m_puts_a m_codes_a m_weights_a m_sets_a m_picks_a m_classes_a m_steps_a m_told_a cI cZ cB cC m_rules m_changes m_mostTries x1 m_settled m_found m_isCovered m_covered m_toldMany m_there x2 m_kinds m_targets m_predicates m_numbers m_puts m_codes m_weights m_sets m_picks x5 m_steps m_told)) (ws' := (wX m_a m_there_a m_now_a m_kinds_a m_targets_a m_predicates_a m_numbers_a m_puts_a m_codes_a m_weights_a m_sets_a m_picks_a m_classes_a m_steps_a m_told_a cI cZ cB cC m_rules m_changes m_mostTries x1 m_settled m_found m_isCovered m_covered m_toldMany m_there x2 m_kinds m_targets m_predicates m_numbers m_puts m_codes m_weights m_sets m_picks x5 m_steps m_told)) (va_runV (As := [.int v2, .int v3]) (rest := []) ⟨hx, hb, hml, hown, hts⟩ (kK5_isResult l D cI cZ cB cC H.size m_a m_there_a m_now_a m_kinds_a m_targets_a m_predicates_a m_numbers_a m_puts_a m_codes_a m_weights_a m_sets_a m_picks_a m_classes_a m_steps_a m_told_a m_rules m_changes m_mostTries x1 m_settled m_found m_isCovered m_covered m_toldMany m_there x2 m_kinds m_targets m_predicates m_numbers m_puts m_codes m_weights m_sets m_picks m_classes m_steps m_told v2 v3 x4 x5 ec6) (cwV 2 hts (gdV wdt4_49 wdt4_51 wds1_14 wdt1_10 gkK5_isResult) rfl rfl rfl (by decide +kernel) ⟨Nat.le_of_ble_eq_true rfl, Nat.le_of_ble_eq_true rfl⟩) ⟨Pr_blind, va_recv hK hPc (ci := 5) (q0 := 0) rfl rfl, fun U hU hW => ⟨rfl, Pr_at hK hN hPc hDc hU hW⟩⟩ rfl rfl hl.1 rfl (lv_room (Nat.le_of_ble_eq_true rfl)) dK5_look_35 ⟨Nat.le_of_ble_eq_true rfl, Nat.le_of_ble_eq_true rfl⟩) hP hD hS hA [0, 1, 2, 3, 4, 5, 6, 7, 8, 9, 10, 11, 12, 13, 14] [] [0, 1, 2, 3, 4, 5, 6, 7, 8, 9, 10, 11, 12, 13, 14] rfl rfl (by decide) (by decide) (by decide) rfl (fun H locs hP hD hS => ?_)
    refine lv_if_ne (tgt := 79) hx hb dK5_look_38 (by decide) (fun hc => ?_) (fun hc => ?_)
    · replace hm := iff_ hm hc
      replace hm := Option.some.inj hm
      simp only [Prod.mk.injEq] at hm
      obtain ⟨rfl, rfl, rfl, rfl, rfl, rfl⟩ := hm
      exact k_retv hx hb hr hlocks hP hD hS dK5_look_79
    · replace hm := ift hm hc
      refine lv_aload_n hx hb dK5_look_41 rfl (lv_at hl 0 rfl) ?_
      refine va_get (D := D) (ci := 5) (v := .ref m_sets_a) (C := RK5) (T := TK5) (N := 23) hx hb hts inK5 hown hK hP 0 rfl rfl 15 (by decide) (hts _ wdt3_201) (fun _ h9 => h9) rfl dK5_look_42 ?_
      refine lv_aload_n hx hb dK5_look_45 rfl (lv_at hl 0 rfl) ?_
      refine va_get (D := D) (ci := 5) (v := .int m_found) (C := RK5) (T := TK5) (N := 23) hx hb hts inK5 hown hK hP 0 rfl rfl 14 (by decide) (hts _ wdt3_200) (fun _ h9 => h9) rfl dK5_look_46 ?_
      refine lv_iload_n hx hb dK5_look_49 rfl (lv_at hl 1 rfl) ?_
      obtain ⟨x7, ex7, hm⟩ := bd1_s hm
      obtain ⟨hix7, ex7⟩ := wrt_s ex7
      refine va_iast hx hb hK hP hD hS 10 0 rfl rfl hix7 dK5_look_50 (fun H locs hP hD hS => ?_)
      rw [ex7] at hP hD
      have hP : va_P D vwCl (wX m_a m_there_a m_now_a m_kinds_a m_targets_a m_predicates_a m_numbers_a m_puts_a m_codes_a m_weights_a m_sets_a m_picks_a m_classes_a m_steps_a m_told_a cI cZ cB cC m_rules m_changes m_mostTries x1 m_settled m_found m_isCovered m_covered m_toldMany m_there x2 m_kinds m_targets m_predicates m_numbers m_puts m_codes m_weights x7 m_picks x5 m_steps m_told) H := hP
      have hD : va_D A (wX m_a m_there_a m_now_a m_kinds_a m_targets_a m_predicates_a m_numbers_a m_puts_a m_codes_a m_weights_a m_sets_a m_picks_a m_classes_a m_steps_a m_told_a cI cZ cB cC m_rules m_changes m_mostTries x1 m_settled m_found m_isCovered m_covered m_toldMany m_there x2 m_kinds m_targets m_predicates m_numbers m_puts m_codes m_weights x7 m_picks x5 m_steps m_told) := hD
      refine lv_aload_n hx hb dK5_look_51 rfl (lv_at hl 0 rfl) ?_
      refine lv_dup hx hb dK5_look_52 rfl ?_
      refine va_get (D := D) (ci := 5) (v := .int m_found) (C := RK5) (T := TK5) (N := 23) hx hb hts inK5 hown hK hP 0 rfl rfl 14 (by decide) (hts _ wdt3_200) (fun _ h9 => h9) rfl dK5_look_53 ?_
      refine lv_iconst (v := 1) hx hb dK5_look_56 (by decide) ?_
      refine lv_iadd hx hb dK5_look_57 ?_
      obtain ⟨x8, ex8, hm⟩ := bd1_s hm
      refine topi (Option.some.inj ex8) ?_
      refine va_put (D := D) (ci := 5) (v := .int x8) (ty := .int) (C := RK5) (T := TK5) (N := 23) hx hb hts inK5 tyK5 tyK5_ok nmK5 hown hK hP hD hS 0 rfl rfl 14 (by decide) (hts _ wdt3_200) (fun _ h9 => h9) rfl (by decide +kernel) rfl rfl (Nat.le_of_ble_eq_true rfl) dK5_look_58 (fun H locs hP hD hS => ?_)
      have hP : va_P D vwCl (wX m_a m_there_a m_now_a m_kinds_a m_targets_a m_predicates_a m_numbers_a m_puts_a m_codes_a m_weights_a m_sets_a m_picks_a m_classes_a m_steps_a m_told_a cI cZ cB cC m_rules m_changes m_mostTries x1 m_settled x8 m_isCovered m_covered m_toldMany m_there x2 m_kinds m_targets m_predicates m_numbers m_puts m_codes m_weights x7 m_picks x5 m_steps m_told) H := hP
      have hD : va_D A (wX m_a m_there_a m_now_a m_kinds_a m_targets_a m_predicates_a m_numbers_a m_puts_a m_codes_a m_weights_a m_sets_a m_picks_a m_classes_a m_steps_a m_told_a cI cZ cB cC m_rules m_changes m_mostTries x1 m_settled x8 m_isCovered m_covered m_toldMany m_there x2 m_kinds m_targets m_predicates m_numbers m_puts m_codes m_weights x7 m_picks x5 m_steps m_told) := hD
      refine lv_aload_n hx hb dK5_look_61 rfl (lv_at hl 0 rfl) ?_
      refine lv_aload_n hx hb dK5_look_62 rfl (lv_at hl 0 rfl) ?_
      refine va_get (D := D) (ci := 5) (v := .int x8) (C := RK5) (T := TK5) (N := 23) hx hb hts inK5 hown hK hP 0 rfl rfl 14 (by decide) (hts _ wdt3_200) (fun _ h9 => h9) rfl dK5_look_63 ?_
      refine lv_bipush (v := 30) hx hb dK5_look_66 (by decide) ?_
      refine lv_icmp_ge (tgt := 75) hx hb dK5_look_68 (by decide) (fun hc => ?_) (fun hc => ?_)
      · replace hm := ift hm hc
        refine lv_iconst (v := 0) hx hb dK5_look_75 (by decide) ?_
        refine va_put (D := D) (ci := 5) (v := .int 0) (ty := .boolean) (C := RK5) (T := TK5) (N := 23) hx hb hts inK5 tyK5 tyK5_ok nmK5 hown hK hP hD hS 0 rfl rfl 13 (by decide) (hts _ wdt3_199) (fun _ h9 => h9) rfl (by decide +kernel) rfl rfl (Nat.le_of_ble_eq_true rfl) dK5_look_76 (fun H locs hP hD hS => ?_)
        have hP : va_P D vwCl (wX m_a m_there_a m_now_a m_kinds_a m_targets_a m_predicates_a m_numbers_a m_puts_a m_codes_a m_weights_a m_sets_a m_picks_a m_classes_a m_steps_a m_told_a cI cZ cB cC m_rules m_changes m_mostTries x1 0 x8 m_isCovered m_covered m_toldMany m_there x2 m_kinds m_targets m_predicates m_numbers m_puts m_codes m_weights x7 m_picks x5 m_steps m_told) H := hP
        have hD : va_D A (wX m_a m_there_a m_now_a m_kinds_a m_targets_a m_predicates_a m_numbers_a m_puts_a m_codes_a m_weights_a m_sets_a m_picks_a m_classes_a m_steps_a m_told_a cI cZ cB cC m_rules m_changes m_mostTries x1 0 x8 m_isCovered m_covered m_toldMany m_there x2 m_kinds m_targets m_predicates m_numbers m_puts m_codes m_weights x7 m_picks x5 m_steps m_told) := hD
        replace hm := Option.some.inj hm
        simp only [Prod.mk.injEq] at hm
        obtain ⟨rfl, rfl, rfl, rfl, rfl, rfl⟩ := hm
        exact k_retv hx hb hr hlocks hP hD hS dK5_look_79
      · replace hm := iff_ hm hc
        refine lv_iconst (v := 1) hx hb dK5_look_71 (by decide) ?_
        refine lv_goto (tgt := 76) hx hb dK5_look_72 (by decide) ?_
        refine va_put (D := D) (ci := 5) (v := .int 1) (ty := .boolean) (C := RK5) (T := TK5) (N := 23) hx hb hts inK5 tyK5 tyK5_ok nmK5 hown hK hP hD hS 0 rfl rfl 13 (by decide) (hts _ wdt3_199) (fun _ h9 => h9) rfl (by decide +kernel) rfl rfl (Nat.le_of_ble_eq_true rfl) dK5_look_76 (fun H locs hP hD hS => ?_)
        have hP : va_P D vwCl (wX m_a m_there_a m_now_a m_kinds_a m_targets_a m_predicates_a m_numbers_a m_puts_a m_codes_a m_weights_a m_sets_a m_picks_a m_classes_a m_steps_a m_told_a cI cZ cB cC m_rules m_changes m_mostTries x1 1 x8 m_isCovered m_covered m_toldMany m_there x2 m_kinds m_targets m_predicates m_numbers m_puts m_codes m_weights x7 m_picks x5 m_steps m_told) H := hP
        have hD : va_D A (wX m_a m_there_a m_now_a m_kinds_a m_targets_a m_predicates_a m_numbers_a m_puts_a m_codes_a m_weights_a m_sets_a m_picks_a m_classes_a m_steps_a m_told_a cI cZ cB cC m_rules m_changes m_mostTries x1 1 x8 m_isCovered m_covered m_toldMany m_there x2 m_kinds m_targets m_predicates m_numbers m_puts m_codes m_weights x7 m_picks x5 m_steps m_told) := hD
        replace hm := Option.some.inj hm
        simp only [Prod.mk.injEq] at hm
        obtain ⟨rfl, rfl, rfl, rfl, rfl, rfl⟩ := hm
        exact k_retv hx hb hr hlocks hP hD hS dK5_look_79
  · replace hm := ift hm hc
    refine lv_aload_n hx hb dK5_look_11 rfl (lv_at hl 0 rfl) ?_
    refine lv_iconst (v := 0) hx hb dK5_look_12 (by decide) ?_
    refine va_put (D := D) (ci := 5) (v := .int 0) (ty := .boolean) (C := RK5) (T := TK5) (N := 23) hx hb hts inK5 tyK5 tyK5_ok nmK5 hown hK hP hD hS 0 rfl rfl 13 (by decide) (hts _ wdt3_199) (fun _ h9 => h9) rfl (by decide +kernel) rfl rfl (Nat.le_of_ble_eq_true rfl) dK5_look_13 (fun H locs hP hD hS => ?_)
    have hP : va_P D vwCl (wX m_a m_there_a m_now_a m_kinds_a m_targets_a m_predicates_a m_numbers_a m_puts_a m_codes_a m_weights_a m_sets_a m_picks_a m_classes_a m_steps_a m_told_a cI cZ cB cC m_rules m_changes m_mostTries m_tried 0 m_found m_isCovered m_covered m_toldMany m_there m_now m_kinds m_targets m_predicates m_numbers m_puts m_codes m_weights m_sets m_picks m_classes m_steps m_told) H := hP
    have hD : va_D A (wX m_a m_there_a m_now_a m_kinds_a m_targets_a m_predicates_a m_numbers_a m_puts_a m_codes_a m_weights_a m_sets_a m_picks_a m_classes_a m_steps_a m_told_a cI cZ cB cC m_rules m_changes m_mostTries m_tried 0 m_found m_isCovered m_covered m_toldMany m_there m_now m_kinds m_targets m_predicates m_numbers m_puts m_codes m_weights m_sets m_picks m_classes m_steps m_told) := hD
    replace hm := Option.some.inj hm
    simp only [Prod.mk.injEq] at hm
    obtain ⟨rfl, rfl, rfl, rfl, rfl, rfl⟩ := hm
    exact k_retv hx hb hr hlocks hP hD hS dK5_look_16
