def mK5_reason_A157 (x5 : Nat → Int32) : Option (Int32 × (Nat → Int32)) :=
  some ((-2), x5)
def mK5_reason_A170 (v3 : Int32) (x5 : Nat → Int32) (i5l157 : Int32) (i6l157 : Int32) (rc157 : Int32 → Int32 → (Option (Int32 × (Nat → Int32)))) (i7x170 : Int32) : Option (Int32 × (Nat → Int32)) :=
  if i6l157 = v3 then
  (bd1 (mK5_codeOf i5l157 1 i7x170) fun x9 => some (x9, x5))
  else
  (bd1 (some (i6l157 + 1)) fun x8 => rc157 i7x170 x8)
def mK5_reason_B170 (m_there : Nat → Int32) (x5 : Nat → Int32) (i5l157 : Int32) (kx170 : Int32 → (Option (Int32 × (Nat → Int32)))) (rc170 : Int32 → Int32 → (Option (Int32 × (Nat → Int32)))) (i7l170 : Int32) (i8l170 : Int32) : Option (Int32 × (Nat → Int32)) :=
  if i8l170 < 0 then
  (kx170 i7l170)
  else
  (bd1 (mK5_codeOf i5l157 1 i8l170) fun x11 => bd1 (rd m_there 864 x11) fun x13 => if x13 = 0 then
    (bd1 (some (i8l170 + (-1))) fun x14 => rc170 i7l170 x14)
    else
    (bd1 (rd x5 12 i8l170) fun x15 => bd1 (rd x5 12 i5l157) fun x16 => if x15 = (x16 - 1) then
      (bd1 (some (i8l170 + (-1))) fun x18 => rc170 i8l170 x18)
      else
      (bd1 (some (i8l170 + (-1))) fun x17 => rc170 i7l170 x17)))
def mK5_reason_L170 (m_there : Nat → Int32) (x5 : Nat → Int32) (i5l157 : Int32) (kx170 : Int32 → (Option (Int32 × (Nat → Int32)))) : Nat → Int32 → Int32 → (Option (Int32 × (Nat → Int32)))
  | 0, _, _ => none
  | n + 1, i7l170, i8l170 => mK5_reason_B170 m_there x5 i5l157 kx170 (mK5_reason_L170 m_there x5 i5l157 kx170 n) i7l170 i8l170
def mK5_reason_B157 (m_there : Nat → Int32) (v3 : Int32) (x5 : Nat → Int32) (kx157 : (Option (Int32 × (Nat → Int32)))) (rc157 : Int32 → Int32 → (Option (Int32 × (Nat → Int32)))) (i5l157 : Int32) (i6l157 : Int32) : Option (Int32 × (Nat → Int32)) :=
  if v3 < i6l157 then
  (kx157)
  else
  (mK5_reason_L170 m_there x5 i5l157 (mK5_reason_A170 v3 x5 i5l157 i6l157 rc157) 5000 ((-1)) 11)
def mK5_reason_L157 (m_there : Nat → Int32) (v3 : Int32) (x5 : Nat → Int32) (kx157 : (Option (Int32 × (Nat → Int32)))) : Nat → Int32 → Int32 → (Option (Int32 × (Nat → Int32)))
  | 0, _, _ => none
  | n + 1, i5l157, i6l157 => mK5_reason_B157 m_there v3 x5 kx157 (mK5_reason_L157 m_there v3 x5 kx157 n) i5l157 i6l157
def mK5_reason_A34 (m_there : Nat → Int32) (v1 : Int32) (v3 : Int32) (x5 : Nat → Int32) (i4x34 : Int32) : Option (Int32 × (Nat → Int32)) :=
  if i4x34 < 0 then
  (some ((-2), x5))
  else
  (if v3 < 0 then
    (some ((-2), x5))
    else
    (bd1 (rd x5 12 i4x34) fun x7 => if v3 ≤ x7 then
      (if v3 = 0 then
        (bd1 (mK5_codeOf v1 0 i4x34) fun x19 => some (x19, x5))
        else
        (mK5_reason_L157 m_there v3 x5 (mK5_reason_A157 x5) 5000 i4x34 1))
      else
      (some ((-2), x5))))
def mK5_reason_J71 (x5 : Nat → Int32) (i4l34 : Int32) (i5l34 : Int32) (rc34 : Int32 → Int32 → (Option (Int32 × (Nat → Int32)))) (s0j71 : Int32) : Option (Int32 × (Nat → Int32)) :=
  if s0j71 = 0 then
  (bd1 (some (i5l34 + (-1))) fun x24 => rc34 i4l34 x24)
  else
  (if i4l34 < 0 then
    (bd1 (some (i5l34 + (-1))) fun x25 => rc34 i5l34 x25)
    else
    (bd1 (rd x5 12 i5l34) fun x26 => bd1 (rd x5 12 i4l34) fun x27 => if x27 < x26 then
      (bd1 (some (i5l34 + (-1))) fun x28 => rc34 i4l34 x28)
      else
      (bd1 (some (i5l34 + (-1))) fun x29 => rc34 i5l34 x29)))
def mK5_reason_J70 (x5 : Nat → Int32) (i4l34 : Int32) (i5l34 : Int32) (rc34 : Int32 → Int32 → (Option (Int32 × (Nat → Int32)))) : Option (Int32 × (Nat → Int32)) :=
  mK5_reason_J71 x5 i4l34 i5l34 rc34 0
def mK5_reason_B34 (m_there : Nat → Int32) (v1 : Int32) (x5 : Nat → Int32) (kx34 : Int32 → (Option (Int32 × (Nat → Int32)))) (rc34 : Int32 → Int32 → (Option (Int32 × (Nat → Int32)))) (i4l34 : Int32) (i5l34 : Int32) : Option (Int32 × (Nat → Int32)) :=
  if i5l34 < 0 then
  (kx34 i4l34)
  else
  (bd1 (mK5_codeOf v1 0 i5l34) fun x21 => bd1 (rd m_there 864 x21) fun x23 => if x23 = 0 then
    (mK5_reason_J70 x5 i4l34 i5l34 rc34)
    else
    (bd1 (rd x5 12 i5l34) fun x30 => if 99 ≤ x30 then
      (mK5_reason_J70 x5 i4l34 i5l34 rc34)
      else
      (mK5_reason_J71 x5 i4l34 i5l34 rc34 1)))
def mK5_reason_L34 (m_there : Nat → Int32) (v1 : Int32) (x5 : Nat → Int32) (kx34 : Int32 → (Option (Int32 × (Nat → Int32)))) : Nat → Int32 → Int32 → (Option (Int32 × (Nat → Int32)))
  | 0, _, _ => none
  | n + 1, i4l34, i5l34 => mK5_reason_B34 m_there v1 x5 kx34 (mK5_reason_L34 m_there v1 x5 kx34 n) i4l34 i5l34
def mK5_reason (m_there : Nat → Int32) (m_steps : Nat → Int32) (v1 : Int32) (v2 : Int32) (v3 : Int32) : Option (Int32 × (Nat → Int32)) :=
  bd1 (mK5_in v1 0 11) fun x1 => if x1 = 0 then
  (some ((-1), m_steps))
  else
  (bd1 (mK5_in v2 0 11) fun x3 => if x3 = 0 then
    (some ((-1), m_steps))
    else
    (bd1 (mK5_measure m_there m_steps v2) fun x5 => mK5_reason_L34 m_there v1 x5 (mK5_reason_A34 m_there v1 v3 x5) 5000 ((-1)) 11))
abbrev rmK5_reason : Room := { frames := 2, cells := 0, slots := 0, locals := 46 }
set_option maxHeartbeats 4000000 in
set_option maxRecDepth 100000 in
theorem kK5_reason (l : Launch) (D : va_G) (cI cZ cB cC : ClassId) (sz : Nat) (m_a : Nat) (m_there_a : Nat) (m_now_a : Nat) (m_kinds_a : Nat) (m_targets_a : Nat) (m_predicates_a : Nat) (m_numbers_a : Nat) (m_puts_a : Nat) (m_codes_a : Nat) (m_weights_a : Nat) (m_sets_a : Nat) (m_picks_a : Nat) (m_classes_a : Nat) (m_steps_a : Nat) (m_told_a : Nat) (m_rules : Int32) (m_changes : Int32) (m_mostTries : Int32) (m_tried : Int32) (m_settled : Int32) (m_found : Int32) (m_isCovered : Int32) (m_covered : Int32) (m_toldMany : Int32) (m_there : Nat → Int32) (m_now : Nat → Int32) (m_kinds : Nat → Int32) (m_targets : Nat → Int32) (m_predicates : Nat → Int32) (m_numbers : Nat → Int32) (m_puts : Nat → Int32) (m_codes : Nat → Int32) (m_weights : Nat → Int32) (m_sets : Nat → Int32) (m_picks : Nat → Int32) (m_classes : Nat → Int32) (m_steps : Nat → Int32) (m_told : Nat → Int32) (v1 : Int32) (v2 : Int32) (v3 : Int32) (r0 : Int32) (m_steps_r : Nat → Int32) (hm : mK5_reason m_there m_steps v1 v2 v3 = some (r0, m_steps_r)) : Met l yK5_reason wsK5_reason rmK5_reason (va_Pc [.ref m_a, .int v1, .int v2, .int v3] (Pr D (tyL cI cZ cB cC) sz (wX m_a m_there_a m_now_a m_kinds_a m_targets_a m_predicates_a m_numbers_a m_puts_a m_codes_a m_weights_a m_sets_a m_picks_a m_classes_a m_steps_a m_told_a cI cZ cB cC m_rules m_changes m_mostTries m_tried m_settled m_found m_isCovered m_covered m_toldMany m_there m_now m_kinds m_targets m_predicates m_numbers m_puts m_codes m_weights m_sets m_picks m_classes m_steps m_told))) (QI D (va_A (wX m_a m_there_a m_now_a m_kinds_a m_targets_a m_predicates_a m_numbers_a m_puts_a m_codes_a m_weights_a m_sets_a m_picks_a m_classes_a m_steps_a m_told_a cI cZ cB cC m_rules m_changes m_mostTries m_tried m_settled m_found m_isCovered m_covered m_toldMany m_there m_now m_kinds m_targets m_predicates m_numbers m_puts m_codes m_weights m_sets m_picks m_classes m_steps m_told) sz) r0 (wX m_a m_there_a m_now_a m_kinds_a m_targets_a m_predicates_a m_numbers_a m_puts_a m_codes_a m_weights_a m_sets_a m_picks_a m_classes_a m_steps_a m_told_a cI cZ cB cC m_rules m_changes m_mostTries m_tried m_settled m_found m_isCovered m_covered m_toldMany m_there m_now m_kinds m_targets m_predicates m_numbers m_puts m_codes m_weights m_sets m_picks m_classes m_steps_r m_told)) 0 0 (va_A (wX m_a m_there_a m_now_a m_kinds_a m_targets_a m_predicates_a m_numbers_a m_puts_a m_codes_a m_weights_a m_sets_a m_picks_a m_classes_a m_steps_a m_told_a cI cZ cB cC m_rules m_changes m_mostTries m_tried m_settled m_found m_isCovered m_covered m_toldMany m_there m_now m_kinds m_targets m_predicates m_numbers m_puts m_codes m_weights m_sets m_picks m_classes m_steps m_told) sz) := by
  refine Met.ofW (cc := cK5_reason) (maxL := 9) (ret := (some .int)) (by decide) rfl ?_
  intro p e s m args below meth c s₁ B hml hv
  obtain ⟨rfl, hsz, hP, hK, hD0, hN⟩ := hv
  have hx := B.exec
  have hb := B.bytes
  have hr := B.returns
  have hts := htsA (atoms_spec (ws := wsK5_reason) B.pre)
  have hown : s.vm.findClass RK5 = some m.cls := findClass_of_methodNamed B.named
  have hlocks := B.notSynchronized
  subst hsz
  have hD := hD0.self (sz := s.heap.size)
  generalize hAe : va_A (wX m_a m_there_a m_now_a m_kinds_a m_targets_a m_predicates_a m_numbers_a m_puts_a m_codes_a m_weights_a m_sets_a m_picks_a m_classes_a m_steps_a m_told_a cI cZ cB cC m_rules m_changes m_mostTries m_tried m_settled m_found m_isCovered m_covered m_toldMany m_there m_now m_kinds m_targets m_predicates m_numbers m_puts m_codes m_weights m_sets m_picks m_classes m_steps m_told) s.heap.size = A at hD ⊢
  have hA : ∀ q : Nat, s.heap.size ≤ q → A q := fun q h => by rw [← hAe]; exact Or.inr h
  refine kstart (A := A) hP (fun H hP hS => ?_)
  have hl := lv_entry ([.ref m_a, .int v1, .int v2, .int v3]) (n := 9) (Nat.le_of_ble_eq_true rfl)
  rw [lg_entry_eq]
  generalize (lg_sl ([.ref m_a, .int v1, .int v2, .int v3]) ++ List.replicate (9 - (lg_sl ([.ref m_a, .int v1, .int v2, .int v3])).length) Slot.unset).toArray = ls at hl ⊢
  have hl : lv_has ls 9 [(0, .ref m_a), (1, .int v1), (2, .int v2), (3, .int v3)] := hl
  unfold mK5_reason at hm
  refine lv_iload_n hx hb dK5_reason_0 rfl (lv_at hl 1 rfl) ?_
  refine lv_iconst (v := 0) hx hb dK5_reason_1 (by decide) ?_
  refine lv_bipush (v := 11) hx hb dK5_reason_2 (by decide) ?_
  obtain ⟨x1, ec2, hm⟩ := bd1_s hm
  have hPc : va_P D vwCl [] H := va_P0
  have hDc : va_D A [] := va_D0
  refine k_calli0 (va_runS (As := [.int v1, .int 0, .int 11]) (rest := []) ⟨hx, hb, hml, hown, hts⟩ (kK5_in l D cI cZ cB cC H.size v1 0 11 x1 ec2) (va_cwS 3 hts (gdS wdt4_23 wdt4_24 wdt1_10 gkK5_in) rfl rfl rfl (by decide +kernel) ⟨Nat.le_of_ble_eq_true rfl, Nat.le_of_ble_eq_true rfl⟩) ⟨Pr_blind, fun U hU hW => ⟨rfl, Pr_at hK hN hPc hDc hU hW⟩⟩ rfl rfl hl.1 rfl (lv_room (Nat.le_of_ble_eq_true rfl)) dK5_reason_4 ⟨Nat.le_of_ble_eq_true rfl, Nat.le_of_ble_eq_true rfl⟩) hP hD hS hA (fun H locs hP hD hS => ?_)
  refine lv_if_eq (tgt := 20) hx hb dK5_reason_7 (by decide) (fun hc => ?_) (fun hc => ?_)
  · replace hm := ift hm hc
    refine lv_iconst (v := (-1)) hx hb dK5_reason_20 (by decide) ?_
    replace hm := Option.some.inj hm
    simp only [Prod.mk.injEq] at hm
    obtain ⟨rfl, rfl⟩ := hm
    exact k_reti hx hb hr hlocks hP hD hS dK5_reason_21
  · replace hm := iff_ hm hc
    refine lv_iload_n hx hb dK5_reason_10 rfl (lv_at hl 2 rfl) ?_
    refine lv_iconst (v := 0) hx hb dK5_reason_11 (by decide) ?_
    refine lv_bipush (v := 11) hx hb dK5_reason_12 (by decide) ?_
    obtain ⟨x3, ec4, hm⟩ := bd1_s hm
    have hPc : va_P D vwCl [] H := va_P0
    have hDc : va_D A [] := va_D0
    refine k_calli0 (va_runS (As := [.int v2, .int 0, .int 11]) (rest := []) ⟨hx, hb, hml, hown, hts⟩ (kK5_in l D cI cZ cB cC H.size v2 0 11 x3 ec4) (va_cwS 3 hts (gdS wdt4_23 wdt4_24 wdt1_10 gkK5_in) rfl rfl rfl (by decide +kernel) ⟨Nat.le_of_ble_eq_true rfl, Nat.le_of_ble_eq_true rfl⟩) ⟨Pr_blind, fun U hU hW => ⟨rfl, Pr_at hK hN hPc hDc hU hW⟩⟩ rfl rfl hl.1 rfl (lv_room (Nat.le_of_ble_eq_true rfl)) dK5_reason_14 ⟨Nat.le_of_ble_eq_true rfl, Nat.le_of_ble_eq_true rfl⟩) hP hD hS hA (fun H locs hP hD hS => ?_)
    refine lv_if_ne (tgt := 22) hx hb dK5_reason_17 (by decide) (fun hc => ?_) (fun hc => ?_)
    · replace hm := iff_ hm hc
      refine lv_aload_n hx hb dK5_reason_22 rfl (lv_at hl 0 rfl) ?_
      refine lv_iload_n hx hb dK5_reason_23 rfl (lv_at hl 2 rfl) ?_
      obtain ⟨x5, ec6, hm⟩ := bd1_s hm
      have hPc := hP.sub (ws' := (wX m_a m_there_a m_now_a m_kinds_a m_targets_a m_predicates_a m_numbers_a m_puts_a m_codes_a m_weights_a m_sets_a m_picks_a m_classes_a m_steps_a m_told_a cI cZ cB cC m_rules m_changes m_mostTries m_tried m_settled m_found m_isCovered m_covered m_toldMany m_there m_now m_kinds m_targets m_predicates m_numbers m_puts m_codes m_weights m_sets m_picks m_classes m_steps m_told)) [0, 1, 2, 3, 4, 5, 6, 7, 8, 9, 10, 11, 12, 13, 14] rfl
      have hDc := hD.sub (ws' := (wX m_a m_there_a m_now_a m_kinds_a m_targets_a m_predicates_a m_numbers_a m_puts_a m_codes_a m_weights_a m_sets_a m_picks_a m_classes_a m_steps_a m_told_a cI cZ cB cC m_rules m_changes m_mostTries m_tried m_settled m_found m_isCovered m_covered m_toldMany m_there m_now m_kinds m_targets m_predicates m_numbers m_puts m_codes m_weights m_sets m_picks m_classes m_steps m_told)) [0, 1, 2, 3, 4, 5, 6, 7, 8, 9, 10, 11, 12, 13, 14] (by decide) rfl
      refine k_callv (wr := []) (w1 := (wX m_a m_there_a m_now_a m_kinds_a m_targets_a m_predicates_a m_numbers_a m_puts_a m_codes_a m_weights_a m_sets_a m_picks_a m_classes_a m_steps_a m_told_a cI cZ cB cC m_rules m_changes m_mostTries m_tried m_settled m_found m_isCovered m_covered m_toldMany m_there m_now m_kinds m_targets m_predicates m_numbers m_puts m_codes m_weights m_sets m_picks m_classes x5 m_told)) (ws' := (wX m_a m_there_a m_now_a m_kinds_a m_targets_a m_predicates_a m_numbers_a m_puts_a m_codes_a m_weights_a m_sets_a m_picks_a m_classes_a m_steps_a m_told_a cI cZ cB cC m_rules m_changes m_mostTries m_tried m_settled m_found m_isCovered m_covered m_toldMany m_there m_now m_kinds m_targets m_predicates m_numbers m_puts m_codes m_weights m_sets m_picks m_classes x5 m_told)) (va_runV (As := [.int v2]) (rest := []) ⟨hx, hb, hml, hown, hts⟩ (kK5_measure l D cI cZ cB cC H.size m_a m_there_a m_now_a m_kinds_a m_targets_a m_predicates_a m_numbers_a m_puts_a m_codes_a m_weights_a m_sets_a m_picks_a m_classes_a m_steps_a m_told_a m_rules m_changes m_mostTries m_tried m_settled m_found m_isCovered m_covered m_toldMany m_there m_now m_kinds m_targets m_predicates m_numbers m_puts m_codes m_weights m_sets m_picks m_classes m_steps m_told v2 x5 ec6) (cwV 1 hts (gdV wdt4_73 wdt4_75 wds2_1 wdt1_10 gkK5_measure) rfl rfl rfl (by decide +kernel) ⟨Nat.le_of_ble_eq_true rfl, Nat.le_of_ble_eq_true rfl⟩) ⟨Pr_blind, va_recv hK hPc (ci := 5) (q0 := 0) rfl rfl, fun U hU hW => ⟨rfl, Pr_at hK hN hPc hDc hU hW⟩⟩ rfl rfl hl.1 rfl (lv_room (Nat.le_of_ble_eq_true rfl)) dK5_reason_24 ⟨Nat.le_of_ble_eq_true rfl, Nat.le_of_ble_eq_true rfl⟩) hP hD hS hA [0, 1, 2, 3, 4, 5, 6, 7, 8, 9, 10, 11, 12, 13, 14] [] [0, 1, 2, 3, 4, 5, 6, 7, 8, 9, 10, 11, 12, 13, 14] rfl rfl (by decide) (by decide) (by decide) rfl (fun H locs hP hD hS => ?_)
      refine lv_iconst (v := (-1)) hx hb dK5_reason_27 (by decide) ?_
      refine lv_istore (lv' := [(4, .int ((-1))), (0, .ref m_a), (1, .int v1), (2, .int v2), (3, .int v3)]) hx hb dK5_reason_28 hl (by decide) rfl (fun ls hl => ?_)
      refine lv_bipush (v := 11) hx hb dK5_reason_30 (by decide) ?_
      refine lv_istore (lv' := [(5, .int 11), (4, .int ((-1))), (0, .ref m_a), (1, .int v1), (2, .int v2), (3, .int v3)]) hx hb dK5_reason_32 hl (by decide) rfl (fun ls hl => ?_)
      have lx34 : ∀ (i4x34 : Int32) (H : Heap) (locs : List Loc) (ls : Array Slot), mK5_reason_A34 m_there v1 v3 x5 i4x34 = some (r0, m_steps_r) → va_P D vwCl (wX m_a m_there_a m_now_a m_kinds_a m_targets_a m_predicates_a m_numbers_a m_puts_a m_codes_a m_weights_a m_sets_a m_picks_a m_classes_a m_steps_a m_told_a cI cZ cB cC m_rules m_changes m_mostTries m_tried m_settled m_found m_isCovered m_covered m_toldMany m_there m_now m_kinds m_targets m_predicates m_numbers m_puts m_codes m_weights m_sets m_picks m_classes x5 m_told) H → va_D A (wX m_a m_there_a m_now_a m_kinds_a m_targets_a m_predicates_a m_numbers_a m_puts_a m_codes_a m_weights_a m_sets_a m_picks_a m_classes_a m_steps_a m_told_a cI cZ cB cC m_rules m_changes m_mostTries m_tried m_settled m_found m_isCovered m_covered m_toldMany m_there m_now m_kinds m_targets m_predicates m_numbers m_puts m_codes m_weights m_sets m_picks m_classes x5 m_told) → va_S A s.heap H locs → lv_has ls 9 [(0, .ref m_a), (1, .int v1), (3, .int v3), (4, .int i4x34)] → W p l e (headSpec wsK5_reason rmK5_reason).room s m ([.ref m_a, .int v1, .int v2, .int v3] : List Value).toArray below meth c H locs 0 0 (MQ below (QI D A r0 (wX m_a m_there_a m_now_a m_kinds_a m_targets_a m_predicates_a m_numbers_a m_puts_a m_codes_a m_weights_a m_sets_a m_picks_a m_classes_a m_steps_a m_told_a cI cZ cB cC m_rules m_changes m_mostTries m_tried m_settled m_found m_isCovered m_covered m_toldMany m_there m_now m_kinds m_targets m_predicates m_numbers m_puts m_codes m_weights m_sets m_picks m_classes m_steps_r m_told)) ([.ref m_a, .int v1, .int v2, .int v3] : List Value).toArray s 0 0 A) (F0 m 115 ls []) := by
        intro i4x34 H locs ls hm hP hD hS hl
        unfold mK5_reason_A34 at hm
        refine lv_iload hx hb dK5_reason_115 (lv_at hl 3 rfl) ?_
        refine lv_if_lt (tgt := 135) hx hb dK5_reason_117 (by decide) (fun hc => ?_) (fun hc => ?_)
        · replace hm := ift hm hc
          refine lv_bipush (v := (-2)) hx hb dK5_reason_135 (by decide) ?_
          replace hm := Option.some.inj hm
          simp only [Prod.mk.injEq] at hm
          obtain ⟨rfl, rfl⟩ := hm
          exact k_reti hx hb hr hlocks hP hD hS dK5_reason_137
        · replace hm := iff_ hm hc
          refine lv_iload_n hx hb dK5_reason_120 rfl (lv_at hl 2 rfl) ?_
          refine lv_if_lt (tgt := 135) hx hb dK5_reason_121 (by decide) (fun hc => ?_) (fun hc => ?_)
          · replace hm := ift hm hc
            refine lv_bipush (v := (-2)) hx hb dK5_reason_135 (by decide) ?_
            replace hm := Option.some.inj hm
            simp only [Prod.mk.injEq] at hm
            obtain ⟨rfl, rfl⟩ := hm
            exact k_reti hx hb hr hlocks hP hD hS dK5_reason_137
          · replace hm := iff_ hm hc
            refine lv_iload_n hx hb dK5_reason_124 rfl (lv_at hl 2 rfl) ?_
            refine lv_aload_n hx hb dK5_reason_125 rfl (lv_at hl 0 rfl) ?_
            refine va_get (D := D) (ci := 5) (v := .ref m_steps_a) (C := RK5) (T := TK5) (N := 23) hx hb hts inK5 hown hK hP 0 rfl rfl 20 (by decide) (hts _ wdt3_206) (fun _ h9 => h9) rfl dK5_reason_126 ?_
            refine lv_iload hx hb dK5_reason_129 (lv_at hl 3 rfl) ?_
            obtain ⟨x7, ex7, hm⟩ := bd1_s hm
            obtain ⟨hix7, ex7⟩ := rd_s ex7
            refine va_iald hx hb hK hP 13 0 rfl rfl hix7 dK5_reason_131 ?_
            refine topi ex7 ?_
            refine lv_icmp_le (tgt := 138) hx hb dK5_reason_132 (by decide) (fun hc => ?_) (fun hc => ?_)
            · replace hm := ift hm hc
              refine lv_iload_n hx hb dK5_reason_138 rfl (lv_at hl 2 rfl) ?_
              refine lv_if_ne (tgt := 150) hx hb dK5_reason_139 (by decide) (fun hc => ?_) (fun hc => ?_)
              · replace hm := iff_ hm hc
                refine lv_iload hx hb dK5_reason_150 (lv_at hl 3 rfl) ?_
                refine lv_istore (lv' := [(5, .int i4x34), (0, .ref m_a), (1, .int v1), (3, .int v3), (4, .int i4x34)]) hx hb dK5_reason_152 hl (by decide) rfl (fun ls hl => ?_)
                refine lv_iconst (v := 1) hx hb dK5_reason_154 (by decide) ?_
                refine lv_istore (lv' := [(6, .int 1), (5, .int i4x34), (0, .ref m_a), (1, .int v1), (3, .int v3), (4, .int i4x34)]) hx hb dK5_reason_155 hl (by decide) rfl (fun ls hl => ?_)
                have lx157 : ∀ (H : Heap) (locs : List Loc) (ls : Array Slot), mK5_reason_A157 x5 = some (r0, m_steps_r) → va_P D vwCl (wX m_a m_there_a m_now_a m_kinds_a m_targets_a m_predicates_a m_numbers_a m_puts_a m_codes_a m_weights_a m_sets_a m_picks_a m_classes_a m_steps_a m_told_a cI cZ cB cC m_rules m_changes m_mostTries m_tried m_settled m_found m_isCovered m_covered m_toldMany m_there m_now m_kinds m_targets m_predicates m_numbers m_puts m_codes m_weights m_sets m_picks m_classes x5 m_told) H → va_D A (wX m_a m_there_a m_now_a m_kinds_a m_targets_a m_predicates_a m_numbers_a m_puts_a m_codes_a m_weights_a m_sets_a m_picks_a m_classes_a m_steps_a m_told_a cI cZ cB cC m_rules m_changes m_mostTries m_tried m_settled m_found m_isCovered m_covered m_toldMany m_there m_now m_kinds m_targets m_predicates m_numbers m_puts m_codes m_weights m_sets m_picks m_classes x5 m_told) → va_S A s.heap H locs → lv_has ls 9 [] → W p l e (headSpec wsK5_reason rmK5_reason).room s m ([.ref m_a, .int v1, .int v2, .int v3] : List Value).toArray below meth c H locs 0 0 (MQ below (QI D A r0 (wX m_a m_there_a m_now_a m_kinds_a m_targets_a m_predicates_a m_numbers_a m_puts_a m_codes_a m_weights_a m_sets_a m_picks_a m_classes_a m_steps_a m_told_a cI cZ cB cC m_rules m_changes m_mostTries m_tried m_settled m_found m_isCovered m_covered m_toldMany m_there m_now m_kinds m_targets m_predicates m_numbers m_puts m_codes m_weights m_sets m_picks m_classes m_steps_r m_told)) ([.ref m_a, .int v1, .int v2, .int v3] : List Value).toArray s 0 0 A) (F0 m 250 ls []) := by
                  intro H locs ls hm hP hD hS hl
                  unfold mK5_reason_A157 at hm
                  refine lv_bipush (v := (-2)) hx hb dK5_reason_250 (by decide) ?_
                  replace hm := Option.some.inj hm
                  simp only [Prod.mk.injEq] at hm
                  obtain ⟨rfl, rfl⟩ := hm
                  exact k_reti hx hb hr hlocks hP hD hS dK5_reason_252
                have lp157 : ∀ (n157 : Nat) (i5l157 : Int32) (i6l157 : Int32) (H : Heap) (locs : List Loc) (ls : Array Slot), mK5_reason_L157 m_there v3 x5 (mK5_reason_A157 x5) n157 i5l157 i6l157 = some (r0, m_steps_r) → va_P D vwCl (wX m_a m_there_a m_now_a m_kinds_a m_targets_a m_predicates_a m_numbers_a m_puts_a m_codes_a m_weights_a m_sets_a m_picks_a m_classes_a m_steps_a m_told_a cI cZ cB cC m_rules m_changes m_mostTries m_tried m_settled m_found m_isCovered m_covered m_toldMany m_there m_now m_kinds m_targets m_predicates m_numbers m_puts m_codes m_weights m_sets m_picks m_classes x5 m_told) H → va_D A (wX m_a m_there_a m_now_a m_kinds_a m_targets_a m_predicates_a m_numbers_a m_puts_a m_codes_a m_weights_a m_sets_a m_picks_a m_classes_a m_steps_a m_told_a cI cZ cB cC m_rules m_changes m_mostTries m_tried m_settled m_found m_isCovered m_covered m_toldMany m_there m_now m_kinds m_targets m_predicates m_numbers m_puts m_codes m_weights m_sets m_picks m_classes x5 m_told) → va_S A s.heap H locs → lv_has ls 9 [(6, .int i6l157), (5, .int i5l157), (0, .ref m_a), (3, .int v3)] → W p l e (headSpec wsK5_reason rmK5_reason).room s m ([.ref m_a, .int v1, .int v2, .int v3] : List Value).toArray below meth c H locs 0 0 (MQ below (QI D A r0 (wX m_a m_there_a m_now_a m_kinds_a m_targets_a m_predicates_a m_numbers_a m_puts_a m_codes_a m_weights_a m_sets_a m_picks_a m_classes_a m_steps_a m_told_a cI cZ cB cC m_rules m_changes m_mostTries m_tried m_settled m_found m_isCovered m_covered m_toldMany m_there m_now m_kinds m_targets m_predicates m_numbers m_puts m_codes m_weights m_sets m_picks m_classes m_steps_r m_told)) ([.ref m_a, .int v1, .int v2, .int v3] : List Value).toArray s 0 0 A) (F0 m 157 ls []) := by
                  intro n157
                  induction n157 with
                  | zero => intro i5l157 i6l157 H locs ls hm; exact nomatch (show none = _ from hm)
                  | succ n157 ih157 =>
                    intro i5l157 i6l157 H locs ls hm hP hD hS hl
                    replace hm : mK5_reason_B157 m_there v3 x5 (mK5_reason_A157 x5) (mK5_reason_L157 m_there v3 x5 (mK5_reason_A157 x5) n157) i5l157 i6l157 = some (r0, m_steps_r) := hm
                    unfold mK5_reason_B157 at hm
                    refine lv_iload hx hb dK5_reason_157 (lv_at hl 0 rfl) ?_
                    refine lv_iload_n hx hb dK5_reason_159 rfl (lv_at hl 3 rfl) ?_
                    refine lv_icmp_gt (tgt := 250) hx hb dK5_reason_160 (by decide) (fun hc => ?_) (fun hc => ?_)
                    · replace hm := ift hm hc
                      exact lx157  _ _ _ hm hP hD hS (lv_sub hl [] rfl)
                    · replace hm := iff_ hm hc
                      refine lv_iconst (v := (-1)) hx hb dK5_reason_163 (by decide) ?_
                      refine lv_istore (lv' := [(7, .int ((-1))), (6, .int i6l157), (5, .int i5l157), (0, .ref m_a), (3, .int v3)]) hx hb dK5_reason_164 hl (by decide) rfl (fun ls hl => ?_)
                      refine lv_bipush (v := 11) hx hb dK5_reason_166 (by decide) ?_
                      refine lv_istore (lv' := [(8, .int 11), (7, .int ((-1))), (6, .int i6l157), (5, .int i5l157), (0, .ref m_a), (3, .int v3)]) hx hb dK5_reason_168 hl (by decide) rfl (fun ls hl => ?_)
                      have lx170 : ∀ (i7x170 : Int32) (H : Heap) (locs : List Loc) (ls : Array Slot), mK5_reason_A170 v3 x5 i5l157 i6l157 (mK5_reason_L157 m_there v3 x5 (mK5_reason_A157 x5) n157) i7x170 = some (r0, m_steps_r) → va_P D vwCl (wX m_a m_there_a m_now_a m_kinds_a m_targets_a m_predicates_a m_numbers_a m_puts_a m_codes_a m_weights_a m_sets_a m_picks_a m_classes_a m_steps_a m_told_a cI cZ cB cC m_rules m_changes m_mostTries m_tried m_settled m_found m_isCovered m_covered m_toldMany m_there m_now m_kinds m_targets m_predicates m_numbers m_puts m_codes m_weights m_sets m_picks m_classes x5 m_told) H → va_D A (wX m_a m_there_a m_now_a m_kinds_a m_targets_a m_predicates_a m_numbers_a m_puts_a m_codes_a m_weights_a m_sets_a m_picks_a m_classes_a m_steps_a m_told_a cI cZ cB cC m_rules m_changes m_mostTries m_tried m_settled m_found m_isCovered m_covered m_toldMany m_there m_now m_kinds m_targets m_predicates m_numbers m_puts m_codes m_weights m_sets m_picks m_classes x5 m_told) → va_S A s.heap H locs → lv_has ls 9 [(0, .ref m_a), (3, .int v3), (5, .int i5l157), (6, .int i6l157), (7, .int i7x170)] → W p l e (headSpec wsK5_reason rmK5_reason).room s m ([.ref m_a, .int v1, .int v2, .int v3] : List Value).toArray below meth c H locs 0 0 (MQ below (QI D A r0 (wX m_a m_there_a m_now_a m_kinds_a m_targets_a m_predicates_a m_numbers_a m_puts_a m_codes_a m_weights_a m_sets_a m_picks_a m_classes_a m_steps_a m_told_a cI cZ cB cC m_rules m_changes m_mostTries m_tried m_settled m_found m_isCovered m_covered m_toldMany m_there m_now m_kinds m_targets m_predicates m_numbers m_puts m_codes m_weights m_sets m_picks m_classes m_steps_r m_told)) ([.ref m_a, .int v1, .int v2, .int v3] : List Value).toArray s 0 0 A) (F0 m 225 ls []) := by
                        intro i7x170 H locs ls hm hP hD hS hl
                        unfold mK5_reason_A170 at hm
                        refine lv_iload hx hb dK5_reason_225 (lv_at hl 3 rfl) ?_
                        refine lv_iload_n hx hb dK5_reason_227 rfl (lv_at hl 1 rfl) ?_
                        refine lv_icmp_ne (tgt := 240) hx hb dK5_reason_228 (by decide) (fun hc => ?_) (fun hc => ?_)
                        · replace hm := iff_ hm hc
                          refine lv_iload hx hb dK5_reason_240 (lv_at hl 4 rfl) ?_
                          refine lv_istore (lv' := [(5, .int i7x170), (0, .ref m_a), (3, .int v3), (6, .int i6l157), (7, .int i7x170)]) hx hb dK5_reason_242 hl (by decide) rfl (fun ls hl => ?_)
                          obtain ⟨x8, ex8, hm⟩ := bd1_s hm
                          refine lv_iinc (v := x8) (lv' := [(6, .int x8), (5, .int i7x170), (0, .ref m_a), (3, .int v3), (7, .int i7x170)]) hx hb dK5_reason_244 hl (k := 3) rfl (by rw [← Option.some.inj ex8]; rfl) (by decide) rfl (fun ls hl => ?_)
                          refine lv_goto (tgt := 157) hx hb dK5_reason_247 (by decide) ?_
                          exact ih157 i7x170 x8 _ _ _ hm hP hD hS (lv_sub hl [0, 1, 2, 3] rfl)
                        · replace hm := ift hm hc
                          refine lv_iload hx hb dK5_reason_231 (lv_at hl 2 rfl) ?_
                          refine lv_iconst (v := 1) hx hb dK5_reason_233 (by decide) ?_
                          refine lv_iload hx hb dK5_reason_234 (lv_at hl 4 rfl) ?_
                          obtain ⟨x9, ec10, hm⟩ := bd1_s hm
                          have hPc : va_P D vwCl [] H := va_P0
                          have hDc : va_D A [] := va_D0
                          refine k_calli0 (va_runS (As := [.int i5l157, .int 1, .int i7x170]) (rest := []) ⟨hx, hb, hml, hown, hts⟩ (kK5_codeOf l D cI cZ cB cC H.size i5l157 1 i7x170 x9 ec10) (va_cwS 3 hts (gdS wdt4_26 wdt4_27 wdt1_10 gkK5_codeOf) rfl rfl rfl (by decide +kernel) ⟨Nat.le_of_ble_eq_true rfl, Nat.le_of_ble_eq_true rfl⟩) ⟨Pr_blind, fun U hU hW => ⟨rfl, Pr_at hK hN hPc hDc hU hW⟩⟩ rfl rfl hl.1 rfl (lv_room (Nat.le_of_ble_eq_true rfl)) dK5_reason_236 ⟨Nat.le_of_ble_eq_true rfl, Nat.le_of_ble_eq_true rfl⟩) hP hD hS hA (fun H locs hP hD hS => ?_)
                          replace hm := Option.some.inj hm
                          simp only [Prod.mk.injEq] at hm
                          obtain ⟨rfl, rfl⟩ := hm
                          exact k_reti hx hb hr hlocks hP hD hS dK5_reason_239
                      have lp170 : ∀ (n170 : Nat) (i7l170 : Int32) (i8l170 : Int32) (H : Heap) (locs : List Loc) (ls : Array Slot), mK5_reason_L170 m_there x5 i5l157 (mK5_reason_A170 v3 x5 i5l157 i6l157 (mK5_reason_L157 m_there v3 x5 (mK5_reason_A157 x5) n157)) n170 i7l170 i8l170 = some (r0, m_steps_r) → va_P D vwCl (wX m_a m_there_a m_now_a m_kinds_a m_targets_a m_predicates_a m_numbers_a m_puts_a m_codes_a m_weights_a m_sets_a m_picks_a m_classes_a m_steps_a m_told_a cI cZ cB cC m_rules m_changes m_mostTries m_tried m_settled m_found m_isCovered m_covered m_toldMany m_there m_now m_kinds m_targets m_predicates m_numbers m_puts m_codes m_weights m_sets m_picks m_classes x5 m_told) H → va_D A (wX m_a m_there_a m_now_a m_kinds_a m_targets_a m_predicates_a m_numbers_a m_puts_a m_codes_a m_weights_a m_sets_a m_picks_a m_classes_a m_steps_a m_told_a cI cZ cB cC m_rules m_changes m_mostTries m_tried m_settled m_found m_isCovered m_covered m_toldMany m_there m_now m_kinds m_targets m_predicates m_numbers m_puts m_codes m_weights m_sets m_picks m_classes x5 m_told) → va_S A s.heap H locs → lv_has ls 9 [(8, .int i8l170), (7, .int i7l170), (6, .int i6l157), (5, .int i5l157), (0, .ref m_a), (3, .int v3)] → W p l e (headSpec wsK5_reason rmK5_reason).room s m ([.ref m_a, .int v1, .int v2, .int v3] : List Value).toArray below meth c H locs 0 0 (MQ below (QI D A r0 (wX m_a m_there_a m_now_a m_kinds_a m_targets_a m_predicates_a m_numbers_a m_puts_a m_codes_a m_weights_a m_sets_a m_picks_a m_classes_a m_steps_a m_told_a cI cZ cB cC m_rules m_changes m_mostTries m_tried m_settled m_found m_isCovered m_covered m_toldMany m_there m_now m_kinds m_targets m_predicates m_numbers m_puts m_codes m_weights m_sets m_picks m_classes m_steps_r m_told)) ([.ref m_a, .int v1, .int v2, .int v3] : List Value).toArray s 0 0 A) (F0 m 170 ls []) := by
                        intro n170
                        induction n170 with
                        | zero => intro i7l170 i8l170 H locs ls hm; exact nomatch (show none = _ from hm)
                        | succ n170 ih170 =>
                          intro i7l170 i8l170 H locs ls hm hP hD hS hl
                          replace hm : mK5_reason_B170 m_there x5 i5l157 (mK5_reason_A170 v3 x5 i5l157 i6l157 (mK5_reason_L157 m_there v3 x5 (mK5_reason_A157 x5) n157)) (mK5_reason_L170 m_there x5 i5l157 (mK5_reason_A170 v3 x5 i5l157 i6l157 (mK5_reason_L157 m_there v3 x5 (mK5_reason_A157 x5) n157)) n170) i7l170 i8l170 = some (r0, m_steps_r) := hm
                          unfold mK5_reason_B170 at hm
                          refine lv_iload hx hb dK5_reason_170 (lv_at hl 0 rfl) ?_
                          refine lv_if_lt (tgt := 225) hx hb dK5_reason_172 (by decide) (fun hc => ?_) (fun hc => ?_)
                          · replace hm := ift hm hc
                            exact lx170 i7l170 _ _ _ hm hP hD hS (lv_sub hl [4, 5, 3, 2, 1] rfl)
                          · replace hm := iff_ hm hc
                            refine lv_aload_n hx hb dK5_reason_175 rfl (lv_at hl 4 rfl) ?_
                            refine va_get (D := D) (ci := 5) (v := .ref m_there_a) (C := RK5) (T := TK5) (N := 23) hx hb hts inK5 hown hK hP 0 rfl rfl 0 (by decide) (hts _ wdt3_186) (fun _ h9 => h9) rfl dK5_reason_176 ?_
                            refine lv_iload hx hb dK5_reason_179 (lv_at hl 3 rfl) ?_
                            refine lv_iconst (v := 1) hx hb dK5_reason_181 (by decide) ?_
                            refine lv_iload hx hb dK5_reason_182 (lv_at hl 0 rfl) ?_
                            obtain ⟨x11, ec12, hm⟩ := bd1_s hm
                            have hPc : va_P D vwCl [] H := va_P0
                            have hDc : va_D A [] := va_D0
                            refine k_calli0 (va_runS (As := [.int i5l157, .int 1, .int i8l170]) (rest := [.ref m_there_a]) ⟨hx, hb, hml, hown, hts⟩ (kK5_codeOf l D cI cZ cB cC H.size i5l157 1 i8l170 x11 ec12) (va_cwS 3 hts (gdS wdt4_26 wdt4_27 wdt1_10 gkK5_codeOf) rfl rfl rfl (by decide +kernel) ⟨Nat.le_of_ble_eq_true rfl, Nat.le_of_ble_eq_true rfl⟩) ⟨Pr_blind, fun U hU hW => ⟨rfl, Pr_at hK hN hPc hDc hU hW⟩⟩ rfl rfl hl.1 rfl (lv_room (Nat.le_of_ble_eq_true rfl)) dK5_reason_184 ⟨Nat.le_of_ble_eq_true rfl, Nat.le_of_ble_eq_true rfl⟩) hP hD hS hA (fun H locs hP hD hS => ?_)
                            obtain ⟨x13, ex13, hm⟩ := bd1_s hm
                            obtain ⟨hix13, ex13⟩ := rd_s ex13
                            refine va_zald hx hb hK hP 1 1 rfl rfl hix13 dK5_reason_187 ?_
                            refine topi ex13 ?_
                            refine lv_if_eq (tgt := 215) hx hb dK5_reason_188 (by decide) (fun hc => ?_) (fun hc => ?_)
                            · replace hm := ift hm hc
                              refine lv_iload hx hb dK5_reason_215 (lv_at hl 1 rfl) ?_
                              refine lv_istore (lv' := [(7, .int i7l170), (8, .int i8l170), (6, .int i6l157), (5, .int i5l157), (0, .ref m_a), (3, .int v3)]) hx hb dK5_reason_217 hl (by decide) rfl (fun ls hl => ?_)
                              obtain ⟨x14, ex14, hm⟩ := bd1_s hm
                              refine lv_iinc (v := x14) (lv' := [(8, .int x14), (7, .int i7l170), (6, .int i6l157), (5, .int i5l157), (0, .ref m_a), (3, .int v3)]) hx hb dK5_reason_219 hl (k := 1) rfl (by rw [← Option.some.inj ex14]; rfl) (by decide) rfl (fun ls hl => ?_)
                              refine lv_goto (tgt := 170) hx hb dK5_reason_222 (by decide) ?_
                              exact ih170 i7l170 x14 _ _ _ hm hP hD hS (lv_sub hl [0, 1, 2, 3, 4, 5] rfl)
                            · replace hm := iff_ hm hc
                              refine lv_aload_n hx hb dK5_reason_191 rfl (lv_at hl 4 rfl) ?_
                              refine va_get (D := D) (ci := 5) (v := .ref m_steps_a) (C := RK5) (T := TK5) (N := 23) hx hb hts inK5 hown hK hP 0 rfl rfl 20 (by decide) (hts _ wdt3_206) (fun _ h9 => h9) rfl dK5_reason_192 ?_
                              refine lv_iload hx hb dK5_reason_195 (lv_at hl 0 rfl) ?_
                              obtain ⟨x15, ex15, hm⟩ := bd1_s hm
                              obtain ⟨hix15, ex15⟩ := rd_s ex15
                              refine va_iald hx hb hK hP 13 0 rfl rfl hix15 dK5_reason_197 ?_
                              refine topi ex15 ?_
                              refine lv_aload_n hx hb dK5_reason_198 rfl (lv_at hl 4 rfl) ?_
                              refine va_get (D := D) (ci := 5) (v := .ref m_steps_a) (C := RK5) (T := TK5) (N := 23) hx hb hts inK5 hown hK hP 0 rfl rfl 20 (by decide) (hts _ wdt3_206) (fun _ h9 => h9) rfl dK5_reason_199 ?_
                              refine lv_iload hx hb dK5_reason_202 (lv_at hl 3 rfl) ?_
                              obtain ⟨x16, ex16, hm⟩ := bd1_s hm
                              obtain ⟨hix16, ex16⟩ := rd_s ex16
                              refine va_iald hx hb hK hP 13 0 rfl rfl hix16 dK5_reason_204 ?_
                              refine topi ex16 ?_
                              refine lv_iconst (v := 1) hx hb dK5_reason_205 (by decide) ?_
                              refine lv_isub hx hb dK5_reason_206 ?_
                              refine lv_icmp_ne (tgt := 215) hx hb dK5_reason_207 (by decide) (fun hc => ?_) (fun hc => ?_)
                              · replace hm := iff_ hm hc
                                refine lv_iload hx hb dK5_reason_215 (lv_at hl 1 rfl) ?_
                                refine lv_istore (lv' := [(7, .int i7l170), (8, .int i8l170), (6, .int i6l157), (5, .int i5l157), (0, .ref m_a), (3, .int v3)]) hx hb dK5_reason_217 hl (by decide) rfl (fun ls hl => ?_)
                                obtain ⟨x17, ex17, hm⟩ := bd1_s hm
                                refine lv_iinc (v := x17) (lv' := [(8, .int x17), (7, .int i7l170), (6, .int i6l157), (5, .int i5l157), (0, .ref m_a), (3, .int v3)]) hx hb dK5_reason_219 hl (k := 1) rfl (by rw [← Option.some.inj ex17]; rfl) (by decide) rfl (fun ls hl => ?_)
                                refine lv_goto (tgt := 170) hx hb dK5_reason_222 (by decide) ?_
                                exact ih170 i7l170 x17 _ _ _ hm hP hD hS (lv_sub hl [0, 1, 2, 3, 4, 5] rfl)
                              · replace hm := ift hm hc
                                refine lv_iload hx hb dK5_reason_210 (lv_at hl 0 rfl) ?_
                                refine lv_goto (tgt := 217) hx hb dK5_reason_212 (by decide) ?_
                                refine lv_istore (lv' := [(7, .int i8l170), (8, .int i8l170), (6, .int i6l157), (5, .int i5l157), (0, .ref m_a), (3, .int v3)]) hx hb dK5_reason_217 hl (by decide) rfl (fun ls hl => ?_)
                                obtain ⟨x18, ex18, hm⟩ := bd1_s hm
                                refine lv_iinc (v := x18) (lv' := [(8, .int x18), (7, .int i8l170), (6, .int i6l157), (5, .int i5l157), (0, .ref m_a), (3, .int v3)]) hx hb dK5_reason_219 hl (k := 1) rfl (by rw [← Option.some.inj ex18]; rfl) (by decide) rfl (fun ls hl => ?_)
                                refine lv_goto (tgt := 170) hx hb dK5_reason_222 (by decide) ?_
                                exact ih170 i8l170 x18 _ _ _ hm hP hD hS (lv_sub hl [0, 1, 2, 3, 4, 5] rfl)
                      exact lp170 5000 ((-1)) 11 _ _ _ hm hP hD hS (lv_sub hl [0, 1, 2, 3, 4, 5] rfl)
                exact lp157 5000 i4x34 1 _ _ _ hm hP hD hS (lv_sub hl [0, 1, 2, 4] rfl)
              · replace hm := ift hm hc
                refine lv_iload_n hx hb dK5_reason_142 rfl (lv_at hl 1 rfl) ?_
                refine lv_iconst (v := 0) hx hb dK5_reason_143 (by decide) ?_
                refine lv_iload hx hb dK5_reason_144 (lv_at hl 3 rfl) ?_
                obtain ⟨x19, ec20, hm⟩ := bd1_s hm
                have hPc : va_P D vwCl [] H := va_P0
                have hDc : va_D A [] := va_D0
                refine k_calli0 (va_runS (As := [.int v1, .int 0, .int i4x34]) (rest := []) ⟨hx, hb, hml, hown, hts⟩ (kK5_codeOf l D cI cZ cB cC H.size v1 0 i4x34 x19 ec20) (va_cwS 3 hts (gdS wdt4_26 wdt4_27 wdt1_10 gkK5_codeOf) rfl rfl rfl (by decide +kernel) ⟨Nat.le_of_ble_eq_true rfl, Nat.le_of_ble_eq_true rfl⟩) ⟨Pr_blind, fun U hU hW => ⟨rfl, Pr_at hK hN hPc hDc hU hW⟩⟩ rfl rfl hl.1 rfl (lv_room (Nat.le_of_ble_eq_true rfl)) dK5_reason_146 ⟨Nat.le_of_ble_eq_true rfl, Nat.le_of_ble_eq_true rfl⟩) hP hD hS hA (fun H locs hP hD hS => ?_)
                replace hm := Option.some.inj hm
                simp only [Prod.mk.injEq] at hm
                obtain ⟨rfl, rfl⟩ := hm
                exact k_reti hx hb hr hlocks hP hD hS dK5_reason_149
            · replace hm := iff_ hm hc
              refine lv_bipush (v := (-2)) hx hb dK5_reason_135 (by decide) ?_
              replace hm := Option.some.inj hm
              simp only [Prod.mk.injEq] at hm
              obtain ⟨rfl, rfl⟩ := hm
              exact k_reti hx hb hr hlocks hP hD hS dK5_reason_137
      have lp34 : ∀ (n34 : Nat) (i4l34 : Int32) (i5l34 : Int32) (H : Heap) (locs : List Loc) (ls : Array Slot), mK5_reason_L34 m_there v1 x5 (mK5_reason_A34 m_there v1 v3 x5) n34 i4l34 i5l34 = some (r0, m_steps_r) → va_P D vwCl (wX m_a m_there_a m_now_a m_kinds_a m_targets_a m_predicates_a m_numbers_a m_puts_a m_codes_a m_weights_a m_sets_a m_picks_a m_classes_a m_steps_a m_told_a cI cZ cB cC m_rules m_changes m_mostTries m_tried m_settled m_found m_isCovered m_covered m_toldMany m_there m_now m_kinds m_targets m_predicates m_numbers m_puts m_codes m_weights m_sets m_picks m_classes x5 m_told) H → va_D A (wX m_a m_there_a m_now_a m_kinds_a m_targets_a m_predicates_a m_numbers_a m_puts_a m_codes_a m_weights_a m_sets_a m_picks_a m_classes_a m_steps_a m_told_a cI cZ cB cC m_rules m_changes m_mostTries m_tried m_settled m_found m_isCovered m_covered m_toldMany m_there m_now m_kinds m_targets m_predicates m_numbers m_puts m_codes m_weights m_sets m_picks m_classes x5 m_told) → va_S A s.heap H locs → lv_has ls 9 [(5, .int i5l34), (4, .int i4l34), (0, .ref m_a), (1, .int v1), (3, .int v3)] → W p l e (headSpec wsK5_reason rmK5_reason).room s m ([.ref m_a, .int v1, .int v2, .int v3] : List Value).toArray below meth c H locs 0 0 (MQ below (QI D A r0 (wX m_a m_there_a m_now_a m_kinds_a m_targets_a m_predicates_a m_numbers_a m_puts_a m_codes_a m_weights_a m_sets_a m_picks_a m_classes_a m_steps_a m_told_a cI cZ cB cC m_rules m_changes m_mostTries m_tried m_settled m_found m_isCovered m_covered m_toldMany m_there m_now m_kinds m_targets m_predicates m_numbers m_puts m_codes m_weights m_sets m_picks m_classes m_steps_r m_told)) ([.ref m_a, .int v1, .int v2, .int v3] : List Value).toArray s 0 0 A) (F0 m 34 ls []) := by
        intro n34
        induction n34 with
        | zero => intro i4l34 i5l34 H locs ls hm; exact nomatch (show none = _ from hm)
        | succ n34 ih34 =>
          intro i4l34 i5l34 H locs ls hm hP hD hS hl
          replace hm : mK5_reason_B34 m_there v1 x5 (mK5_reason_A34 m_there v1 v3 x5) (mK5_reason_L34 m_there v1 x5 (mK5_reason_A34 m_there v1 v3 x5) n34) i4l34 i5l34 = some (r0, m_steps_r) := hm
          unfold mK5_reason_B34 at hm
          refine lv_iload hx hb dK5_reason_34 (lv_at hl 0 rfl) ?_
          refine lv_if_lt (tgt := 115) hx hb dK5_reason_36 (by decide) (fun hc => ?_) (fun hc => ?_)
          · replace hm := ift hm hc
            exact lx34 i4l34 _ _ _ hm hP hD hS (lv_sub hl [2, 3, 4, 1] rfl)
          · replace hm := iff_ hm hc
            refine lv_aload_n hx hb dK5_reason_39 rfl (lv_at hl 2 rfl) ?_
            refine va_get (D := D) (ci := 5) (v := .ref m_there_a) (C := RK5) (T := TK5) (N := 23) hx hb hts inK5 hown hK hP 0 rfl rfl 0 (by decide) (hts _ wdt3_186) (fun _ h9 => h9) rfl dK5_reason_40 ?_
            refine lv_iload_n hx hb dK5_reason_43 rfl (lv_at hl 3 rfl) ?_
            refine lv_iconst (v := 0) hx hb dK5_reason_44 (by decide) ?_
            refine lv_iload hx hb dK5_reason_45 (lv_at hl 0 rfl) ?_
            obtain ⟨x21, ec22, hm⟩ := bd1_s hm
            have hPc : va_P D vwCl [] H := va_P0
            have hDc : va_D A [] := va_D0
            refine k_calli0 (va_runS (As := [.int v1, .int 0, .int i5l34]) (rest := [.ref m_there_a]) ⟨hx, hb, hml, hown, hts⟩ (kK5_codeOf l D cI cZ cB cC H.size v1 0 i5l34 x21 ec22) (va_cwS 3 hts (gdS wdt4_26 wdt4_27 wdt1_10 gkK5_codeOf) rfl rfl rfl (by decide +kernel) ⟨Nat.le_of_ble_eq_true rfl, Nat.le_of_ble_eq_true rfl⟩) ⟨Pr_blind, fun U hU hW => ⟨rfl, Pr_at hK hN hPc hDc hU hW⟩⟩ rfl rfl hl.1 rfl (lv_room (Nat.le_of_ble_eq_true rfl)) dK5_reason_47 ⟨Nat.le_of_ble_eq_true rfl, Nat.le_of_ble_eq_true rfl⟩) hP hD hS hA (fun H locs hP hD hS => ?_)
            obtain ⟨x23, ex23, hm⟩ := bd1_s hm
            obtain ⟨hix23, ex23⟩ := rd_s ex23
            refine va_zald hx hb hK hP 1 1 rfl rfl hix23 dK5_reason_50 ?_
            refine topi ex23 ?_
            have jn71 : ∀ (s0j71 : Int32) (H : Heap) (locs : List Loc) (ls : Array Slot), mK5_reason_J71 x5 i4l34 i5l34 (mK5_reason_L34 m_there v1 x5 (mK5_reason_A34 m_there v1 v3 x5) n34) s0j71 = some (r0, m_steps_r) → va_P D vwCl (wX m_a m_there_a m_now_a m_kinds_a m_targets_a m_predicates_a m_numbers_a m_puts_a m_codes_a m_weights_a m_sets_a m_picks_a m_classes_a m_steps_a m_told_a cI cZ cB cC m_rules m_changes m_mostTries m_tried m_settled m_found m_isCovered m_covered m_toldMany m_there m_now m_kinds m_targets m_predicates m_numbers m_puts m_codes m_weights m_sets m_picks m_classes x5 m_told) H → va_D A (wX m_a m_there_a m_now_a m_kinds_a m_targets_a m_predicates_a m_numbers_a m_puts_a m_codes_a m_weights_a m_sets_a m_picks_a m_classes_a m_steps_a m_told_a cI cZ cB cC m_rules m_changes m_mostTries m_tried m_settled m_found m_isCovered m_covered m_toldMany m_there m_now m_kinds m_targets m_predicates m_numbers m_puts m_codes m_weights m_sets m_picks m_classes x5 m_told) → va_S A s.heap H locs → lv_has ls 9 [(0, .ref m_a), (1, .int v1), (3, .int v3), (4, .int i4l34), (5, .int i5l34)] → W p l e (headSpec wsK5_reason rmK5_reason).room s m ([.ref m_a, .int v1, .int v2, .int v3] : List Value).toArray below meth c H locs 0 0 (MQ below (QI D A r0 (wX m_a m_there_a m_now_a m_kinds_a m_targets_a m_predicates_a m_numbers_a m_puts_a m_codes_a m_weights_a m_sets_a m_picks_a m_classes_a m_steps_a m_told_a cI cZ cB cC m_rules m_changes m_mostTries m_tried m_settled m_found m_isCovered m_covered m_toldMany m_there m_now m_kinds m_targets m_predicates m_numbers m_puts m_codes m_weights m_sets m_picks m_classes m_steps_r m_told)) ([.ref m_a, .int v1, .int v2, .int v3] : List Value).toArray s 0 0 A) (F0 m 71 ls [.int s0j71]) := by
              intro s0j71 H locs ls hm hP hD hS hl
              unfold mK5_reason_J71 at hm
              refine lv_istore (lv' := [(6, .int s0j71), (0, .ref m_a), (1, .int v1), (3, .int v3), (4, .int i4l34), (5, .int i5l34)]) hx hb dK5_reason_71 hl (by decide) rfl (fun ls hl => ?_)
              refine lv_iload hx hb dK5_reason_73 (lv_at hl 0 rfl) ?_
              refine lv_if_eq (tgt := 105) hx hb dK5_reason_75 (by decide) (fun hc => ?_) (fun hc => ?_)
              · replace hm := ift hm hc
                refine lv_iload hx hb dK5_reason_105 (lv_at hl 4 rfl) ?_
                refine lv_istore (lv' := [(4, .int i4l34), (6, .int s0j71), (0, .ref m_a), (1, .int v1), (3, .int v3), (5, .int i5l34)]) hx hb dK5_reason_107 hl (by decide) rfl (fun ls hl => ?_)
                obtain ⟨x24, ex24, hm⟩ := bd1_s hm
                refine lv_iinc (v := x24) (lv' := [(5, .int x24), (4, .int i4l34), (6, .int s0j71), (0, .ref m_a), (1, .int v1), (3, .int v3)]) hx hb dK5_reason_109 hl (k := 5) rfl (by rw [← Option.some.inj ex24]; rfl) (by decide) rfl (fun ls hl => ?_)
                refine lv_goto (tgt := 34) hx hb dK5_reason_112 (by decide) ?_
                exact ih34 i4l34 x24 _ _ _ hm hP hD hS (lv_sub hl [0, 1, 3, 4, 5] rfl)
              · replace hm := iff_ hm hc
                refine lv_iload hx hb dK5_reason_78 (lv_at hl 4 rfl) ?_
                refine lv_if_lt (tgt := 100) hx hb dK5_reason_80 (by decide) (fun hc => ?_) (fun hc => ?_)
                · replace hm := ift hm hc
                  refine lv_iload hx hb dK5_reason_100 (lv_at hl 5 rfl) ?_
                  refine lv_goto (tgt := 107) hx hb dK5_reason_102 (by decide) ?_
                  refine lv_istore (lv' := [(4, .int i5l34), (6, .int s0j71), (0, .ref m_a), (1, .int v1), (3, .int v3), (5, .int i5l34)]) hx hb dK5_reason_107 hl (by decide) rfl (fun ls hl => ?_)
                  obtain ⟨x25, ex25, hm⟩ := bd1_s hm
                  refine lv_iinc (v := x25) (lv' := [(5, .int x25), (4, .int i5l34), (6, .int s0j71), (0, .ref m_a), (1, .int v1), (3, .int v3)]) hx hb dK5_reason_109 hl (k := 5) rfl (by rw [← Option.some.inj ex25]; rfl) (by decide) rfl (fun ls hl => ?_)
                  refine lv_goto (tgt := 34) hx hb dK5_reason_112 (by decide) ?_
                  exact ih34 i5l34 x25 _ _ _ hm hP hD hS (lv_sub hl [0, 1, 3, 4, 5] rfl)
                · replace hm := iff_ hm hc
                  refine lv_aload_n hx hb dK5_reason_83 rfl (lv_at hl 1 rfl) ?_
                  refine va_get (D := D) (ci := 5) (v := .ref m_steps_a) (C := RK5) (T := TK5) (N := 23) hx hb hts inK5 hown hK hP 0 rfl rfl 20 (by decide) (hts _ wdt3_206) (fun _ h9 => h9) rfl dK5_reason_84 ?_
                  refine lv_iload hx hb dK5_reason_87 (lv_at hl 5 rfl) ?_
                  obtain ⟨x26, ex26, hm⟩ := bd1_s hm
                  obtain ⟨hix26, ex26⟩ := rd_s ex26
                  refine va_iald hx hb hK hP 13 0 rfl rfl hix26 dK5_reason_89 ?_
                  refine topi ex26 ?_
                  refine lv_aload_n hx hb dK5_reason_90 rfl (lv_at hl 1 rfl) ?_
                  refine va_get (D := D) (ci := 5) (v := .ref m_steps_a) (C := RK5) (T := TK5) (N := 23) hx hb hts inK5 hown hK hP 0 rfl rfl 20 (by decide) (hts _ wdt3_206) (fun _ h9 => h9) rfl dK5_reason_91 ?_
                  refine lv_iload hx hb dK5_reason_94 (lv_at hl 4 rfl) ?_
                  obtain ⟨x27, ex27, hm⟩ := bd1_s hm
                  obtain ⟨hix27, ex27⟩ := rd_s ex27
                  refine va_iald hx hb hK hP 13 0 rfl rfl hix27 dK5_reason_96 ?_
                  refine topi ex27 ?_
                  refine lv_icmp_gt (tgt := 105) hx hb dK5_reason_97 (by decide) (fun hc => ?_) (fun hc => ?_)
                  · replace hm := ift hm hc
                    refine lv_iload hx hb dK5_reason_105 (lv_at hl 4 rfl) ?_
                    refine lv_istore (lv' := [(4, .int i4l34), (6, .int s0j71), (0, .ref m_a), (1, .int v1), (3, .int v3), (5, .int i5l34)]) hx hb dK5_reason_107 hl (by decide) rfl (fun ls hl => ?_)
                    obtain ⟨x28, ex28, hm⟩ := bd1_s hm
                    refine lv_iinc (v := x28) (lv' := [(5, .int x28), (4, .int i4l34), (6, .int s0j71), (0, .ref m_a), (1, .int v1), (3, .int v3)]) hx hb dK5_reason_109 hl (k := 5) rfl (by rw [← Option.some.inj ex28]; rfl) (by decide) rfl (fun ls hl => ?_)
                    refine lv_goto (tgt := 34) hx hb dK5_reason_112 (by decide) ?_
                    exact ih34 i4l34 x28 _ _ _ hm hP hD hS (lv_sub hl [0, 1, 3, 4, 5] rfl)
                  · replace hm := iff_ hm hc
                    refine lv_iload hx hb dK5_reason_100 (lv_at hl 5 rfl) ?_
                    refine lv_goto (tgt := 107) hx hb dK5_reason_102 (by decide) ?_
                    refine lv_istore (lv' := [(4, .int i5l34), (6, .int s0j71), (0, .ref m_a), (1, .int v1), (3, .int v3), (5, .int i5l34)]) hx hb dK5_reason_107 hl (by decide) rfl (fun ls hl => ?_)
                    obtain ⟨x29, ex29, hm⟩ := bd1_s hm
                    refine lv_iinc (v := x29) (lv' := [(5, .int x29), (4, .int i5l34), (6, .int s0j71), (0, .ref m_a), (1, .int v1), (3, .int v3)]) hx hb dK5_reason_109 hl (k := 5) rfl (by rw [← Option.some.inj ex29]; rfl) (by decide) rfl (fun ls hl => ?_)
                    refine lv_goto (tgt := 34) hx hb dK5_reason_112 (by decide) ?_
                    exact ih34 i5l34 x29 _ _ _ hm hP hD hS (lv_sub hl [0, 1, 3, 4, 5] rfl)
            have jn70 : ∀ (H : Heap) (locs : List Loc) (ls : Array Slot), mK5_reason_J70 x5 i4l34 i5l34 (mK5_reason_L34 m_there v1 x5 (mK5_reason_A34 m_there v1 v3 x5) n34) = some (r0, m_steps_r) → va_P D vwCl (wX m_a m_there_a m_now_a m_kinds_a m_targets_a m_predicates_a m_numbers_a m_puts_a m_codes_a m_weights_a m_sets_a m_picks_a m_classes_a m_steps_a m_told_a cI cZ cB cC m_rules m_changes m_mostTries m_tried m_settled m_found m_isCovered m_covered m_toldMany m_there m_now m_kinds m_targets m_predicates m_numbers m_puts m_codes m_weights m_sets m_picks m_classes x5 m_told) H → va_D A (wX m_a m_there_a m_now_a m_kinds_a m_targets_a m_predicates_a m_numbers_a m_puts_a m_codes_a m_weights_a m_sets_a m_picks_a m_classes_a m_steps_a m_told_a cI cZ cB cC m_rules m_changes m_mostTries m_tried m_settled m_found m_isCovered m_covered m_toldMany m_there m_now m_kinds m_targets m_predicates m_numbers m_puts m_codes m_weights m_sets m_picks m_classes x5 m_told) → va_S A s.heap H locs → lv_has ls 9 [(0, .ref m_a), (1, .int v1), (3, .int v3), (4, .int i4l34), (5, .int i5l34)] → W p l e (headSpec wsK5_reason rmK5_reason).room s m ([.ref m_a, .int v1, .int v2, .int v3] : List Value).toArray below meth c H locs 0 0 (MQ below (QI D A r0 (wX m_a m_there_a m_now_a m_kinds_a m_targets_a m_predicates_a m_numbers_a m_puts_a m_codes_a m_weights_a m_sets_a m_picks_a m_classes_a m_steps_a m_told_a cI cZ cB cC m_rules m_changes m_mostTries m_tried m_settled m_found m_isCovered m_covered m_toldMany m_there m_now m_kinds m_targets m_predicates m_numbers m_puts m_codes m_weights m_sets m_picks m_classes m_steps_r m_told)) ([.ref m_a, .int v1, .int v2, .int v3] : List Value).toArray s 0 0 A) (F0 m 70 ls []) := by
              intro H locs ls hm hP hD hS hl
              unfold mK5_reason_J70 at hm
              refine lv_iconst (v := 0) hx hb dK5_reason_70 (by decide) ?_
              exact jn71 0 _ _ _ hm hP hD hS (lv_sub hl [0, 1, 2, 3, 4] rfl)
            refine lv_if_eq (tgt := 70) hx hb dK5_reason_51 (by decide) (fun hc => ?_) (fun hc => ?_)
            · replace hm := ift hm hc
              exact jn70  _ _ _ hm hP hD hS (lv_sub hl [2, 3, 4, 1, 0] rfl)
            · replace hm := iff_ hm hc
              refine lv_aload_n hx hb dK5_reason_54 rfl (lv_at hl 2 rfl) ?_
              refine va_get (D := D) (ci := 5) (v := .ref m_steps_a) (C := RK5) (T := TK5) (N := 23) hx hb hts inK5 hown hK hP 0 rfl rfl 20 (by decide) (hts _ wdt3_206) (fun _ h9 => h9) rfl dK5_reason_55 ?_
              refine lv_iload hx hb dK5_reason_58 (lv_at hl 0 rfl) ?_
              obtain ⟨x30, ex30, hm⟩ := bd1_s hm
              obtain ⟨hix30, ex30⟩ := rd_s ex30
              refine va_iald hx hb hK hP 13 0 rfl rfl hix30 dK5_reason_60 ?_
              refine topi ex30 ?_
              refine lv_bipush (v := 99) hx hb dK5_reason_61 (by decide) ?_
              refine lv_icmp_ge (tgt := 70) hx hb dK5_reason_63 (by decide) (fun hc => ?_) (fun hc => ?_)
              · replace hm := ift hm hc
                exact jn70  _ _ _ hm hP hD hS (lv_sub hl [2, 3, 4, 1, 0] rfl)
              · replace hm := iff_ hm hc
                refine lv_iconst (v := 1) hx hb dK5_reason_66 (by decide) ?_
                refine lv_goto (tgt := 71) hx hb dK5_reason_67 (by decide) ?_
                exact jn71 1 _ _ _ hm hP hD hS (lv_sub hl [2, 3, 4, 1, 0] rfl)
      exact lp34 5000 ((-1)) 11 _ _ _ hm hP hD hS (lv_sub hl [0, 1, 2, 3, 5] rfl)
    · replace hm := ift hm hc
      refine lv_iconst (v := (-1)) hx hb dK5_reason_20 (by decide) ?_
      replace hm := Option.some.inj hm
      simp only [Prod.mk.injEq] at hm
      obtain ⟨rfl, rfl⟩ := hm
      exact k_reti hx hb hr hlocks hP hD hS dK5_reason_21
def mK5_isThere_A5 (i3x5 : Int32) : Option (Int32) :=
  bd1 (bz i3x5) fun x1 => some x1
def mK5_isThere_B5 (m_changes : Int32) (m_puts : Nat → Int32) (m_codes : Nat → Int32) (v1 : Int32) (v2 : Int32) (kx5 : Int32 → Option (Int32)) (rc5 : Int32 → Int32 → Option (Int32)) (i3l5 : Int32) (i4l5 : Int32) : Option (Int32) :=
  if m_changes ≤ i4l5 then
  (kx5 i3l5)
  else
  (if i3l5 = 0 then
    (bd1 (rd m_puts 12 i4l5) fun x3 => if x3 = v1 then
      (bd1 (rd m_codes 12 i4l5) fun x5 => if x5 = v2 then
        (bd1 (some (i4l5 + 1)) fun x7 => rc5 1 x7)
        else
        (bd1 (some (i4l5 + 1)) fun x6 => rc5 0 x6))
      else
      (bd1 (some (i4l5 + 1)) fun x4 => rc5 0 x4))
    else
    (bd1 (some (i4l5 + 1)) fun x2 => rc5 1 x2))
def mK5_isThere_L5 (m_changes : Int32) (m_puts : Nat → Int32) (m_codes : Nat → Int32) (v1 : Int32) (v2 : Int32) (kx5 : Int32 → Option (Int32)) : Nat → Int32 → Int32 → Option (Int32)
  | 0, _, _ => none
  | n + 1, i3l5, i4l5 => mK5_isThere_B5 m_changes m_puts m_codes v1 v2 kx5 (mK5_isThere_L5 m_changes m_puts m_codes v1 v2 kx5 n) i3l5 i4l5
def mK5_isThere (m_changes : Int32) (m_puts : Nat → Int32) (m_codes : Nat → Int32) (v1 : Int32) (v2 : Int32) : Option (Int32) :=
  mK5_isThere_L5 m_changes m_puts m_codes v1 v2 (mK5_isThere_A5) 5000 0 0
abbrev rmK5_isThere : Room := { frames := 0, cells := 0, slots := 0, locals := 0 }
set_option maxHeartbeats 4000000 in
set_option maxRecDepth 100000 in
theorem kK5_isThere (l : Launch) (D : va_G) (cI cZ cB cC : ClassId) (sz : Nat) (m_a : Nat) (m_there_a : Nat) (m_now_a : Nat) (m_kinds_a : Nat) (m_targets_a : Nat) (m_predicates_a : Nat) (m_numbers_a : Nat) (m_puts_a : Nat) (m_codes_a : Nat) (m_weights_a : Nat) (m_sets_a : Nat) (m_picks_a : Nat) (m_classes_a : Nat) (m_steps_a : Nat) (m_told_a : Nat) (m_rules : Int32) (m_changes : Int32) (m_mostTries : Int32) (m_tried : Int32) (m_settled : Int32) (m_found : Int32) (m_isCovered : Int32) (m_covered : Int32) (m_toldMany : Int32) (m_there : Nat → Int32) (m_now : Nat → Int32) (m_kinds : Nat → Int32) (m_targets : Nat → Int32) (m_predicates : Nat → Int32) (m_numbers : Nat → Int32) (m_puts : Nat → Int32) (m_codes : Nat → Int32) (m_weights : Nat → Int32) (m_sets : Nat → Int32) (m_picks : Nat → Int32) (m_classes : Nat → Int32) (m_steps : Nat → Int32) (m_told : Nat → Int32) (v1 : Int32) (v2 : Int32) (r0 : Int32) (hm : mK5_isThere m_changes m_puts m_codes v1 v2 = some r0) : Met l yK5_isThere wsK5_isThere rmK5_isThere (va_Pc [.ref m_a, .int v1, .int v2] (Pr D (tyL cI cZ cB cC) sz (wX m_a m_there_a m_now_a m_kinds_a m_targets_a m_predicates_a m_numbers_a m_puts_a m_codes_a m_weights_a m_sets_a m_picks_a m_classes_a m_steps_a m_told_a cI cZ cB cC m_rules m_changes m_mostTries m_tried m_settled m_found m_isCovered m_covered m_toldMany m_there m_now m_kinds m_targets m_predicates m_numbers m_puts m_codes m_weights m_sets m_picks m_classes m_steps m_told))) (QI D (va_A (wX m_a m_there_a m_now_a m_kinds_a m_targets_a m_predicates_a m_numbers_a m_puts_a m_codes_a m_weights_a m_sets_a m_picks_a m_classes_a m_steps_a m_told_a cI cZ cB cC m_rules m_changes m_mostTries m_tried m_settled m_found m_isCovered m_covered m_toldMany m_there m_now m_kinds m_targets m_predicates m_numbers m_puts m_codes m_weights m_sets m_picks m_classes m_steps m_told) sz) r0 (wX m_a m_there_a m_now_a m_kinds_a m_targets_a m_predicates_a m_numbers_a m_puts_a m_codes_a m_weights_a m_sets_a m_picks_a m_classes_a m_steps_a m_told_a cI cZ cB cC m_rules m_changes m_mostTries m_tried m_settled m_found m_isCovered m_covered m_toldMany m_there m_now m_kinds m_targets m_predicates m_numbers m_puts m_codes m_weights m_sets m_picks m_classes m_steps m_told)) 0 0 (va_A (wX m_a m_there_a m_now_a m_kinds_a m_targets_a m_predicates_a m_numbers_a m_puts_a m_codes_a m_weights_a m_sets_a m_picks_a m_classes_a m_steps_a m_told_a cI cZ cB cC m_rules m_changes m_mostTries m_tried m_settled m_found m_isCovered m_covered m_toldMany m_there m_now m_kinds m_targets m_predicates m_numbers m_puts m_codes m_weights m_sets m_picks m_classes m_steps m_told) sz) := by
  refine Met.ofW (cc := cK5_isThere) (maxL := 5) (ret := (some .boolean)) (by decide) rfl ?_
  intro p e s m args below meth c s₁ B hml hv
  obtain ⟨rfl, hsz, hP, hK, hD0, hN⟩ := hv
  have hx := B.exec
  have hb := B.bytes
  have hr := B.returns
  have hts := htsA (atoms_spec (ws := wsK5_isThere) B.pre)
  have hown : s.vm.findClass RK5 = some m.cls := findClass_of_methodNamed B.named
  have hlocks := B.notSynchronized
  subst hsz
  have hD := hD0.self (sz := s.heap.size)
  generalize hAe : va_A (wX m_a m_there_a m_now_a m_kinds_a m_targets_a m_predicates_a m_numbers_a m_puts_a m_codes_a m_weights_a m_sets_a m_picks_a m_classes_a m_steps_a m_told_a cI cZ cB cC m_rules m_changes m_mostTries m_tried m_settled m_found m_isCovered m_covered m_toldMany m_there m_now m_kinds m_targets m_predicates m_numbers m_puts m_codes m_weights m_sets m_picks m_classes m_steps m_told) s.heap.size = A at hD ⊢
  have hA : ∀ q : Nat, s.heap.size ≤ q → A q := fun q h => by rw [← hAe]; exact Or.inr h
  refine kstart (A := A) hP (fun H hP hS => ?_)
  have hl := lv_entry ([.ref m_a, .int v1, .int v2]) (n := 5) (Nat.le_of_ble_eq_true rfl)
  rw [lg_entry_eq]
  generalize (lg_sl ([.ref m_a, .int v1, .int v2]) ++ List.replicate (5 - (lg_sl ([.ref m_a, .int v1, .int v2])).length) Slot.unset).toArray = ls at hl ⊢
  have hl : lv_has ls 5 [(0, .ref m_a), (1, .int v1), (2, .int v2)] := hl
  unfold mK5_isThere at hm
  refine lv_iconst (v := 0) hx hb dK5_isThere_0 (by decide) ?_
  refine lv_istore_n (lv' := [(3, .int 0), (0, .ref m_a), (1, .int v1), (2, .int v2)]) hx hb dK5_isThere_1 rfl hl (by decide) rfl (fun ls hl => ?_)
  refine lv_iconst (v := 0) hx hb dK5_isThere_2 (by decide) ?_
  refine lv_istore (lv' := [(4, .int 0), (3, .int 0), (0, .ref m_a), (1, .int v1), (2, .int v2)]) hx hb dK5_isThere_3 hl (by decide) rfl (fun ls hl => ?_)
  have lx5 : ∀ (i3x5 : Int32) (H : Heap) (locs : List Loc) (ls : Array Slot), mK5_isThere_A5 i3x5 = some r0 → va_P D vwCl (wX m_a m_there_a m_now_a m_kinds_a m_targets_a m_predicates_a m_numbers_a m_puts_a m_codes_a m_weights_a m_sets_a m_picks_a m_classes_a m_steps_a m_told_a cI cZ cB cC m_rules m_changes m_mostTries m_tried m_settled m_found m_isCovered m_covered m_toldMany m_there m_now m_kinds m_targets m_predicates m_numbers m_puts m_codes m_weights m_sets m_picks m_classes m_steps m_told) H → va_D A (wX m_a m_there_a m_now_a m_kinds_a m_targets_a m_predicates_a m_numbers_a m_puts_a m_codes_a m_weights_a m_sets_a m_picks_a m_classes_a m_steps_a m_told_a cI cZ cB cC m_rules m_changes m_mostTries m_tried m_settled m_found m_isCovered m_covered m_toldMany m_there m_now m_kinds m_targets m_predicates m_numbers m_puts m_codes m_weights m_sets m_picks m_classes m_steps m_told) → va_S A s.heap H locs → lv_has ls 5 [(3, .int i3x5)] → W p l e (headSpec wsK5_isThere rmK5_isThere).room s m ([.ref m_a, .int v1, .int v2] : List Value).toArray below meth c H locs 0 0 (MQ below (QI D A r0 (wX m_a m_there_a m_now_a m_kinds_a m_targets_a m_predicates_a m_numbers_a m_puts_a m_codes_a m_weights_a m_sets_a m_picks_a m_classes_a m_steps_a m_told_a cI cZ cB cC m_rules m_changes m_mostTries m_tried m_settled m_found m_isCovered m_covered m_toldMany m_there m_now m_kinds m_targets m_predicates m_numbers m_puts m_codes m_weights m_sets m_picks m_classes m_steps m_told)) ([.ref m_a, .int v1, .int v2] : List Value).toArray s 0 0 A) (F0 m 52 ls []) := by
    intro i3x5 H locs ls hm hP hD hS hl
    unfold mK5_isThere_A5 at hm
    refine lv_iload_n hx hb dK5_isThere_52 rfl (lv_at hl 0 rfl) ?_
    obtain ⟨x1, ex1, hm⟩ := bd1_s hm
    obtain ⟨eex1, hzx1⟩ := bz_s ex1
    refine topi eex1 ?_
    replace hm := Option.some.inj hm
    subst hm
    exact k_retz hx hb hr hlocks (bz_n hzx1) hP hD hS dK5_isThere_53
  have lp5 : ∀ (n5 : Nat) (i3l5 : Int32) (i4l5 : Int32) (H : Heap) (locs : List Loc) (ls : Array Slot), mK5_isThere_L5 m_changes m_puts m_codes v1 v2 (mK5_isThere_A5) n5 i3l5 i4l5 = some r0 → va_P D vwCl (wX m_a m_there_a m_now_a m_kinds_a m_targets_a m_predicates_a m_numbers_a m_puts_a m_codes_a m_weights_a m_sets_a m_picks_a m_classes_a m_steps_a m_told_a cI cZ cB cC m_rules m_changes m_mostTries m_tried m_settled m_found m_isCovered m_covered m_toldMany m_there m_now m_kinds m_targets m_predicates m_numbers m_puts m_codes m_weights m_sets m_picks m_classes m_steps m_told) H → va_D A (wX m_a m_there_a m_now_a m_kinds_a m_targets_a m_predicates_a m_numbers_a m_puts_a m_codes_a m_weights_a m_sets_a m_picks_a m_classes_a m_steps_a m_told_a cI cZ cB cC m_rules m_changes m_mostTries m_tried m_settled m_found m_isCovered m_covered m_toldMany m_there m_now m_kinds m_targets m_predicates m_numbers m_puts m_codes m_weights m_sets m_picks m_classes m_steps m_told) → va_S A s.heap H locs → lv_has ls 5 [(4, .int i4l5), (3, .int i3l5), (0, .ref m_a), (1, .int v1), (2, .int v2)] → W p l e (headSpec wsK5_isThere rmK5_isThere).room s m ([.ref m_a, .int v1, .int v2] : List Value).toArray below meth c H locs 0 0 (MQ below (QI D A r0 (wX m_a m_there_a m_now_a m_kinds_a m_targets_a m_predicates_a m_numbers_a m_puts_a m_codes_a m_weights_a m_sets_a m_picks_a m_classes_a m_steps_a m_told_a cI cZ cB cC m_rules m_changes m_mostTries m_tried m_settled m_found m_isCovered m_covered m_toldMany m_there m_now m_kinds m_targets m_predicates m_numbers m_puts m_codes m_weights m_sets m_picks m_classes m_steps m_told)) ([.ref m_a, .int v1, .int v2] : List Value).toArray s 0 0 A) (F0 m 5 ls []) := by
    intro n5
    induction n5 with
    | zero => intro i3l5 i4l5 H locs ls hm; exact nomatch (show none = _ from hm)
    | succ n5 ih5 =>
      intro i3l5 i4l5 H locs ls hm hP hD hS hl
      replace hm : mK5_isThere_B5 m_changes m_puts m_codes v1 v2 (mK5_isThere_A5) (mK5_isThere_L5 m_changes m_puts m_codes v1 v2 (mK5_isThere_A5) n5) i3l5 i4l5 = some r0 := hm
      unfold mK5_isThere_B5 at hm
      refine lv_iload hx hb dK5_isThere_5 (lv_at hl 0 rfl) ?_
      refine lv_aload_n hx hb dK5_isThere_7 rfl (lv_at hl 2 rfl) ?_
      refine va_get (D := D) (ci := 5) (v := .int m_changes) (C := RK5) (T := TK5) (N := 23) hx hb hts inK5 hown hK hP 0 rfl rfl 7 (by decide) (hts _ wdt3_193) (fun _ h9 => h9) rfl dK5_isThere_8 ?_
      refine lv_icmp_ge (tgt := 52) hx hb dK5_isThere_11 (by decide) (fun hc => ?_) (fun hc => ?_)
      · replace hm := ift hm hc
        exact lx5 i3l5 _ _ _ hm hP hD hS (lv_sub hl [1] rfl)
      · replace hm := iff_ hm hc
        refine lv_iload_n hx hb dK5_isThere_14 rfl (lv_at hl 1 rfl) ?_
        refine lv_if_ne (tgt := 40) hx hb dK5_isThere_15 (by decide) (fun hc => ?_) (fun hc => ?_)
        · replace hm := iff_ hm hc
          refine lv_iconst (v := 1) hx hb dK5_isThere_40 (by decide) ?_
          refine lv_goto (tgt := 45) hx hb dK5_isThere_41 (by decide) ?_
          refine lv_istore_n (lv' := [(3, .int 1), (4, .int i4l5), (0, .ref m_a), (1, .int v1), (2, .int v2)]) hx hb dK5_isThere_45 rfl hl (by decide) rfl (fun ls hl => ?_)
          obtain ⟨x2, ex2, hm⟩ := bd1_s hm
          refine lv_iinc (v := x2) (lv' := [(4, .int x2), (3, .int 1), (0, .ref m_a), (1, .int v1), (2, .int v2)]) hx hb dK5_isThere_46 hl (k := 1) rfl (by rw [← Option.some.inj ex2]; rfl) (by decide) rfl (fun ls hl => ?_)
          refine lv_goto (tgt := 5) hx hb dK5_isThere_49 (by decide) ?_
          exact ih5 1 x2 _ _ _ hm hP hD hS (lv_sub hl [0, 1, 2, 3, 4] rfl)
        · replace hm := ift hm hc
          refine lv_aload_n hx hb dK5_isThere_18 rfl (lv_at hl 2 rfl) ?_
          refine va_get (D := D) (ci := 5) (v := .ref m_puts_a) (C := RK5) (T := TK5) (N := 23) hx hb hts inK5 hown hK hP 0 rfl rfl 8 (by decide) (hts _ wdt3_194) (fun _ h9 => h9) rfl dK5_isThere_19 ?_
          refine lv_iload hx hb dK5_isThere_22 (lv_at hl 0 rfl) ?_
          obtain ⟨x3, ex3, hm⟩ := bd1_s hm
          obtain ⟨hix3, ex3⟩ := rd_s ex3
          refine va_zald hx hb hK hP 7 1 rfl rfl hix3 dK5_isThere_24 ?_
          refine topi ex3 ?_
          refine lv_iload_n hx hb dK5_isThere_25 rfl (lv_at hl 3 rfl) ?_
          refine lv_icmp_ne (tgt := 44) hx hb dK5_isThere_26 (by decide) (fun hc => ?_) (fun hc => ?_)
          · replace hm := iff_ hm hc
            refine lv_iconst (v := 0) hx hb dK5_isThere_44 (by decide) ?_
            refine lv_istore_n (lv' := [(3, .int 0), (4, .int i4l5), (0, .ref m_a), (1, .int v1), (2, .int v2)]) hx hb dK5_isThere_45 rfl hl (by decide) rfl (fun ls hl => ?_)
            obtain ⟨x4, ex4, hm⟩ := bd1_s hm
            refine lv_iinc (v := x4) (lv' := [(4, .int x4), (3, .int 0), (0, .ref m_a), (1, .int v1), (2, .int v2)]) hx hb dK5_isThere_46 hl (k := 1) rfl (by rw [← Option.some.inj ex4]; rfl) (by decide) rfl (fun ls hl => ?_)
            refine lv_goto (tgt := 5) hx hb dK5_isThere_49 (by decide) ?_
            exact ih5 0 x4 _ _ _ hm hP hD hS (lv_sub hl [0, 1, 2, 3, 4] rfl)
          · replace hm := ift hm hc
            refine lv_aload_n hx hb dK5_isThere_29 rfl (lv_at hl 2 rfl) ?_
            refine va_get (D := D) (ci := 5) (v := .ref m_codes_a) (C := RK5) (T := TK5) (N := 23) hx hb hts inK5 hown hK hP 0 rfl rfl 9 (by decide) (hts _ wdt3_195) (fun _ h9 => h9) rfl dK5_isThere_30 ?_
            refine lv_iload hx hb dK5_isThere_33 (lv_at hl 0 rfl) ?_
            obtain ⟨x5, ex5, hm⟩ := bd1_s hm
            obtain ⟨hix5, ex5⟩ := rd_s ex5
            refine va_iald hx hb hK hP 8 0 rfl rfl hix5 dK5_isThere_35 ?_
            refine topi ex5 ?_
            refine lv_iload_n hx hb dK5_isThere_36 rfl (lv_at hl 4 rfl) ?_
            refine lv_icmp_ne (tgt := 44) hx hb dK5_isThere_37 (by decide) (fun hc => ?_) (fun hc => ?_)
            · replace hm := iff_ hm hc
              refine lv_iconst (v := 0) hx hb dK5_isThere_44 (by decide) ?_
              refine lv_istore_n (lv' := [(3, .int 0), (4, .int i4l5), (0, .ref m_a), (1, .int v1), (2, .int v2)]) hx hb dK5_isThere_45 rfl hl (by decide) rfl (fun ls hl => ?_)
              obtain ⟨x6, ex6, hm⟩ := bd1_s hm
              refine lv_iinc (v := x6) (lv' := [(4, .int x6), (3, .int 0), (0, .ref m_a), (1, .int v1), (2, .int v2)]) hx hb dK5_isThere_46 hl (k := 1) rfl (by rw [← Option.some.inj ex6]; rfl) (by decide) rfl (fun ls hl => ?_)
              refine lv_goto (tgt := 5) hx hb dK5_isThere_49 (by decide) ?_
              exact ih5 0 x6 _ _ _ hm hP hD hS (lv_sub hl [0, 1, 2, 3, 4] rfl)
            · replace hm := ift hm hc
              refine lv_iconst (v := 1) hx hb dK5_isThere_40 (by decide) ?_
              refine lv_goto (tgt := 45) hx hb dK5_isThere_41 (by decide) ?_
              refine lv_istore_n (lv' := [(3, .int 1), (4, .int i4l5), (0, .ref m_a), (1, .int v1), (2, .int v2)]) hx hb dK5_isThere_45 rfl hl (by decide) rfl (fun ls hl => ?_)
              obtain ⟨x7, ex7, hm⟩ := bd1_s hm
              refine lv_iinc (v := x7) (lv' := [(4, .int x7), (3, .int 1), (0, .ref m_a), (1, .int v1), (2, .int v2)]) hx hb dK5_isThere_46 hl (k := 1) rfl (by rw [← Option.some.inj ex7]; rfl) (by decide) rfl (fun ls hl => ?_)
              refine lv_goto (tgt := 5) hx hb dK5_isThere_49 (by decide) ?_
              exact ih5 1 x7 _ _ _ hm hP hD hS (lv_sub hl [0, 1, 2, 3, 4] rfl)
  exact lp5 5000 0 0 _ _ _ hm hP hD hS (lv_sub hl [0, 1, 2, 3, 4] rfl)
def mK5_enter (m_changes : Int32) (m_puts : Nat → Int32) (m_codes : Nat → Int32) (m_weights : Nat → Int32) (v1 : Int32) (v2 : Int32) (v3 : Int32) : Option (Int32 × (Nat → Int32) × (Nat → Int32) × (Nat → Int32)) :=
  bd1 (wrt m_puts 12 m_changes (vp_nar .boolean v1)) fun x1 => bd1 (wrt m_codes 12 m_changes v2) fun x2 => bd1 (wrt m_weights 12 m_changes v3) fun x3 => bd1 (some (m_changes + 1)) fun x4 => some (x4, x1, x2, x3)
abbrev rmK5_enter : Room := { frames := 0, cells := 0, slots := 0, locals := 0 }
set_option maxHeartbeats 4000000 in
set_option maxRecDepth 100000 in
theorem kK5_enter (l : Launch) (D : va_G) (cI cZ cB cC : ClassId) (sz : Nat) (m_a : Nat) (m_there_a : Nat) (m_now_a : Nat) (m_kinds_a : Nat) (m_targets_a : Nat) (m_predicates_a : Nat) (m_numbers_a : Nat) (m_puts_a : Nat) (m_codes_a : Nat) (m_weights_a : Nat) (m_sets_a : Nat) (m_picks_a : Nat) (m_classes_a : Nat) (m_steps_a : Nat) (m_told_a : Nat) (m_rules : Int32) (m_changes : Int32) (m_mostTries : Int32) (m_tried : Int32) (m_settled : Int32) (m_found : Int32) (m_isCovered : Int32) (m_covered : Int32) (m_toldMany : Int32) (m_there : Nat → Int32) (m_now : Nat → Int32) (m_kinds : Nat → Int32) (m_targets : Nat → Int32) (m_predicates : Nat → Int32) (m_numbers : Nat → Int32) (m_puts : Nat → Int32) (m_codes : Nat → Int32) (m_weights : Nat → Int32) (m_sets : Nat → Int32) (m_picks : Nat → Int32) (m_classes : Nat → Int32) (m_steps : Nat → Int32) (m_told : Nat → Int32) (v1 : Int32) (v2 : Int32) (v3 : Int32) (m_changes_r : Int32) (m_puts_r : Nat → Int32) (m_codes_r : Nat → Int32) (m_weights_r : Nat → Int32) (hm : mK5_enter m_changes m_puts m_codes m_weights v1 v2 v3 = some (m_changes_r, m_puts_r, m_codes_r, m_weights_r)) : Met l yK5_enter wsK5_enter rmK5_enter (va_Pc [.ref m_a, .int v1, .int v2, .int v3] (Pr D (tyL cI cZ cB cC) sz (wX m_a m_there_a m_now_a m_kinds_a m_targets_a m_predicates_a m_numbers_a m_puts_a m_codes_a m_weights_a m_sets_a m_picks_a m_classes_a m_steps_a m_told_a cI cZ cB cC m_rules m_changes m_mostTries m_tried m_settled m_found m_isCovered m_covered m_toldMany m_there m_now m_kinds m_targets m_predicates m_numbers m_puts m_codes m_weights m_sets m_picks m_classes m_steps m_told))) (QV D (va_A (wX m_a m_there_a m_now_a m_kinds_a m_targets_a m_predicates_a m_numbers_a m_puts_a m_codes_a m_weights_a m_sets_a m_picks_a m_classes_a m_steps_a m_told_a cI cZ cB cC m_rules m_changes m_mostTries m_tried m_settled m_found m_isCovered m_covered m_toldMany m_there m_now m_kinds m_targets m_predicates m_numbers m_puts m_codes m_weights m_sets m_picks m_classes m_steps m_told) sz) (wX m_a m_there_a m_now_a m_kinds_a m_targets_a m_predicates_a m_numbers_a m_puts_a m_codes_a m_weights_a m_sets_a m_picks_a m_classes_a m_steps_a m_told_a cI cZ cB cC m_rules m_changes_r m_mostTries m_tried m_settled m_found m_isCovered m_covered m_toldMany m_there m_now m_kinds m_targets m_predicates m_numbers m_puts_r m_codes_r m_weights_r m_sets m_picks m_classes m_steps m_told)) 0 0 (va_A (wX m_a m_there_a m_now_a m_kinds_a m_targets_a m_predicates_a m_numbers_a m_puts_a m_codes_a m_weights_a m_sets_a m_picks_a m_classes_a m_steps_a m_told_a cI cZ cB cC m_rules m_changes m_mostTries m_tried m_settled m_found m_isCovered m_covered m_toldMany m_there m_now m_kinds m_targets m_predicates m_numbers m_puts m_codes m_weights m_sets m_picks m_classes m_steps m_told) sz) := by
  refine Met.ofW (cc := cK5_enter) (maxL := 4) (ret := none) (by decide) rfl ?_
  intro p e s m args below meth c s₁ B hml hv
  obtain ⟨rfl, hsz, hP, hK, hD0, hN⟩ := hv
  have hx := B.exec
  have hb := B.bytes
  have hr := B.returns
  have hts := htsA (atoms_spec (ws := wsK5_enter) B.pre)
  have hown : s.vm.findClass RK5 = some m.cls := findClass_of_methodNamed B.named
  have hlocks := B.notSynchronized
  subst hsz
  have hD := hD0.self (sz := s.heap.size)
  generalize hAe : va_A (wX m_a m_there_a m_now_a m_kinds_a m_targets_a m_predicates_a m_numbers_a m_puts_a m_codes_a m_weights_a m_sets_a m_picks_a m_classes_a m_steps_a m_told_a cI cZ cB cC m_rules m_changes m_mostTries m_tried m_settled m_found m_isCovered m_covered m_toldMany m_there m_now m_kinds m_targets m_predicates m_numbers m_puts m_codes m_weights m_sets m_picks m_classes m_steps m_told) s.heap.size = A at hD ⊢
  have hA : ∀ q : Nat, s.heap.size ≤ q → A q := fun q h => by rw [← hAe]; exact Or.inr h
  refine kstart (A := A) hP (fun H hP hS => ?_)
  have hl := lv_entry ([.ref m_a, .int v1, .int v2, .int v3]) (n := 4) (Nat.le_of_ble_eq_true rfl)
  rw [lg_entry_eq]
  generalize (lg_sl ([.ref m_a, .int v1, .int v2, .int v3]) ++ List.replicate (4 - (lg_sl ([.ref m_a, .int v1, .int v2, .int v3])).length) Slot.unset).toArray = ls at hl ⊢
  have hl : lv_has ls 4 [(0, .ref m_a), (1, .int v1), (2, .int v2), (3, .int v3)] := hl
  unfold mK5_enter at hm
  refine lv_aload_n hx hb dK5_enter_0 rfl (lv_at hl 0 rfl) ?_
  refine va_get (D := D) (ci := 5) (v := .ref m_puts_a) (C := RK5) (T := TK5) (N := 23) hx hb hts inK5 hown hK hP 0 rfl rfl 8 (by decide) (hts _ wdt3_194) (fun _ h9 => h9) rfl dK5_enter_1 ?_
  refine lv_aload_n hx hb dK5_enter_4 rfl (lv_at hl 0 rfl) ?_
  refine va_get (D := D) (ci := 5) (v := .int m_changes) (C := RK5) (T := TK5) (N := 23) hx hb hts inK5 hown hK hP 0 rfl rfl 7 (by decide) (hts _ wdt3_193) (fun _ h9 => h9) rfl dK5_enter_5 ?_
  refine lv_iload_n hx hb dK5_enter_8 rfl (lv_at hl 1 rfl) ?_
  obtain ⟨x1, ex1, hm⟩ := bd1_s hm
  obtain ⟨hix1, ex1⟩ := wrt_s ex1
  refine va_zast hx hb hK hP hD hS 7 1 rfl rfl hix1 dK5_enter_9 (fun H locs hP hD hS => ?_)
  rw [ex1] at hP hD
  have hP : va_P D vwCl (wX m_a m_there_a m_now_a m_kinds_a m_targets_a m_predicates_a m_numbers_a m_puts_a m_codes_a m_weights_a m_sets_a m_picks_a m_classes_a m_steps_a m_told_a cI cZ cB cC m_rules m_changes m_mostTries m_tried m_settled m_found m_isCovered m_covered m_toldMany m_there m_now m_kinds m_targets m_predicates m_numbers x1 m_codes m_weights m_sets m_picks m_classes m_steps m_told) H := hP
  have hD : va_D A (wX m_a m_there_a m_now_a m_kinds_a m_targets_a m_predicates_a m_numbers_a m_puts_a m_codes_a m_weights_a m_sets_a m_picks_a m_classes_a m_steps_a m_told_a cI cZ cB cC m_rules m_changes m_mostTries m_tried m_settled m_found m_isCovered m_covered m_toldMany m_there m_now m_kinds m_targets m_predicates m_numbers x1 m_codes m_weights m_sets m_picks m_classes m_steps m_told) := hD
  refine lv_aload_n hx hb dK5_enter_10 rfl (lv_at hl 0 rfl) ?_
  refine va_get (D := D) (ci := 5) (v := .ref m_codes_a) (C := RK5) (T := TK5) (N := 23) hx hb hts inK5 hown hK hP 0 rfl rfl 9 (by decide) (hts _ wdt3_195) (fun _ h9 => h9) rfl dK5_enter_11 ?_
  refine lv_aload_n hx hb dK5_enter_14 rfl (lv_at hl 0 rfl) ?_
  refine va_get (D := D) (ci := 5) (v := .int m_changes) (C := RK5) (T := TK5) (N := 23) hx hb hts inK5 hown hK hP 0 rfl rfl 7 (by decide) (hts _ wdt3_193) (fun _ h9 => h9) rfl dK5_enter_15 ?_
  refine lv_iload_n hx hb dK5_enter_18 rfl (lv_at hl 2 rfl) ?_
  obtain ⟨x2, ex2, hm⟩ := bd1_s hm
  obtain ⟨hix2, ex2⟩ := wrt_s ex2
  refine va_iast hx hb hK hP hD hS 8 0 rfl rfl hix2 dK5_enter_19 (fun H locs hP hD hS => ?_)
  rw [ex2] at hP hD
  have hP : va_P D vwCl (wX m_a m_there_a m_now_a m_kinds_a m_targets_a m_predicates_a m_numbers_a m_puts_a m_codes_a m_weights_a m_sets_a m_picks_a m_classes_a m_steps_a m_told_a cI cZ cB cC m_rules m_changes m_mostTries m_tried m_settled m_found m_isCovered m_covered m_toldMany m_there m_now m_kinds m_targets m_predicates m_numbers x1 x2 m_weights m_sets m_picks m_classes m_steps m_told) H := hP
  have hD : va_D A (wX m_a m_there_a m_now_a m_kinds_a m_targets_a m_predicates_a m_numbers_a m_puts_a m_codes_a m_weights_a m_sets_a m_picks_a m_classes_a m_steps_a m_told_a cI cZ cB cC m_rules m_changes m_mostTries m_tried m_settled m_found m_isCovered m_covered m_toldMany m_there m_now m_kinds m_targets m_predicates m_numbers x1 x2 m_weights m_sets m_picks m_classes m_steps m_told) := hD
  refine lv_aload_n hx hb dK5_enter_20 rfl (lv_at hl 0 rfl) ?_
  refine va_get (D := D) (ci := 5) (v := .ref m_weights_a) (C := RK5) (T := TK5) (N := 23) hx hb hts inK5 hown hK hP 0 rfl rfl 10 (by decide) (hts _ wdt3_196) (fun _ h9 => h9) rfl dK5_enter_21 ?_
  refine lv_aload_n hx hb dK5_enter_24 rfl (lv_at hl 0 rfl) ?_
  refine va_get (D := D) (ci := 5) (v := .int m_changes) (C := RK5) (T := TK5) (N := 23) hx hb hts inK5 hown hK hP 0 rfl rfl 7 (by decide) (hts _ wdt3_193) (fun _ h9 => h9) rfl dK5_enter_25 ?_
  refine lv_iload_n hx hb dK5_enter_28 rfl (lv_at hl 3 rfl) ?_
  obtain ⟨x3, ex3, hm⟩ := bd1_s hm
  obtain ⟨hix3, ex3⟩ := wrt_s ex3
  refine va_iast hx hb hK hP hD hS 9 0 rfl rfl hix3 dK5_enter_29 (fun H locs hP hD hS => ?_)
  rw [ex3] at hP hD
  have hP : va_P D vwCl (wX m_a m_there_a m_now_a m_kinds_a m_targets_a m_predicates_a m_numbers_a m_puts_a m_codes_a m_weights_a m_sets_a m_picks_a m_classes_a m_steps_a m_told_a cI cZ cB cC m_rules m_changes m_mostTries m_tried m_settled m_found m_isCovered m_covered m_toldMany m_there m_now m_kinds m_targets m_predicates m_numbers x1 x2 x3 m_sets m_picks m_classes m_steps m_told) H := hP
  have hD : va_D A (wX m_a m_there_a m_now_a m_kinds_a m_targets_a m_predicates_a m_numbers_a m_puts_a m_codes_a m_weights_a m_sets_a m_picks_a m_classes_a m_steps_a m_told_a cI cZ cB cC m_rules m_changes m_mostTries m_tried m_settled m_found m_isCovered m_covered m_toldMany m_there m_now m_kinds m_targets m_predicates m_numbers x1 x2 x3 m_sets m_picks m_classes m_steps m_told) := hD
  refine lv_aload_n hx hb dK5_enter_30 rfl (lv_at hl 0 rfl) ?_
  refine lv_dup hx hb dK5_enter_31 rfl ?_
  refine va_get (D := D) (ci := 5) (v := .int m_changes) (C := RK5) (T := TK5) (N := 23) hx hb hts inK5 hown hK hP 0 rfl rfl 7 (by decide) (hts _ wdt3_193) (fun _ h9 => h9) rfl dK5_enter_32 ?_
  refine lv_iconst (v := 1) hx hb dK5_enter_35 (by decide) ?_
  refine lv_iadd hx hb dK5_enter_36 ?_
  obtain ⟨x4, ex4, hm⟩ := bd1_s hm
  refine topi (Option.some.inj ex4) ?_
  refine va_put (D := D) (ci := 5) (v := .int x4) (ty := .int) (C := RK5) (T := TK5) (N := 23) hx hb hts inK5 tyK5 tyK5_ok nmK5 hown hK hP hD hS 0 rfl rfl 7 (by decide) (hts _ wdt3_193) (fun _ h9 => h9) rfl (by decide +kernel) rfl rfl (Nat.le_of_ble_eq_true rfl) dK5_enter_37 (fun H locs hP hD hS => ?_)
  have hP : va_P D vwCl (wX m_a m_there_a m_now_a m_kinds_a m_targets_a m_predicates_a m_numbers_a m_puts_a m_codes_a m_weights_a m_sets_a m_picks_a m_classes_a m_steps_a m_told_a cI cZ cB cC m_rules x4 m_mostTries m_tried m_settled m_found m_isCovered m_covered m_toldMany m_there m_now m_kinds m_targets m_predicates m_numbers x1 x2 x3 m_sets m_picks m_classes m_steps m_told) H := hP
  have hD : va_D A (wX m_a m_there_a m_now_a m_kinds_a m_targets_a m_predicates_a m_numbers_a m_puts_a m_codes_a m_weights_a m_sets_a m_picks_a m_classes_a m_steps_a m_told_a cI cZ cB cC m_rules x4 m_mostTries m_tried m_settled m_found m_isCovered m_covered m_toldMany m_there m_now m_kinds m_targets m_predicates m_numbers x1 x2 x3 m_sets m_picks m_classes m_steps m_told) := hD
  replace hm := Option.some.inj hm
  simp only [Prod.mk.injEq] at hm
  obtain ⟨rfl, rfl, rfl, rfl⟩ := hm
  exact k_retv hx hb hr hlocks hP hD hS dK5_enter_40
