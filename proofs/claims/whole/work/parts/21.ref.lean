def mK5_suggest_A87 (m_changes : Int32) (x3 : Nat → Int32) (m_changesx87 : Int32) (m_putsx87 : Nat → Int32) (m_codesx87 : Nat → Int32) (m_weightsx87 : Nat → Int32) (m_classesx87 : Nat → Int32) : Option (Int32 × Int32 × (Nat → Int32) × (Nat → Int32) × (Nat → Int32) × (Nat → Int32) × (Nat → Int32)) :=
  some (m_changesx87 - m_changes, m_changesx87, x3, m_putsx87, m_codesx87, m_weightsx87, m_classesx87)
def mK5_suggest_J317 (v2 : Int32) (x8 : Int32) (x9 : Int32) (i6l87 : Int32) (m_changesl87 : Int32) (m_putsl87 : Nat → Int32) (m_codesl87 : Nat → Int32) (m_weightsl87 : Nat → Int32) (m_classesl87 : Nat → Int32) (rc87 : Int32 → Int32 → (Nat → Int32) → (Nat → Int32) → (Nat → Int32) → (Nat → Int32) → (Option (Int32 × Int32 × (Nat → Int32) × (Nat → Int32) × (Nat → Int32) × (Nat → Int32) × (Nat → Int32)))) (x16 : Int32) (s1j317 : Int32) : Option (Int32 × Int32 × (Nat → Int32) × (Nat → Int32) × (Nat → Int32) × (Nat → Int32) × (Nat → Int32)) :=
  bd1 (mK5_codeOf v2 x8 i6l87) fun x68 => bd4 (mK5_offer m_changesl87 m_putsl87 m_codesl87 m_weightsl87 s1j317 x68) fun x70 x71 x72 x73 => bd1 (mK5_codeOf v2 x9 i6l87) fun x75 => bd4 (mK5_offer x70 x71 x72 x73 x16 x75) fun x77 x78 x79 x80 => bd1 (some (i6l87 + 1)) fun x82 => rc87 x82 x77 x78 x79 x80 m_classesl87
def mK5_suggest_J140 (m_kinds : Nat → Int32) (v1 : Int32) (v2 : Int32) (x3 : Nat → Int32) (x8 : Int32) (x9 : Int32) (i6l87 : Int32) (m_changesl87 : Int32) (m_putsl87 : Nat → Int32) (m_codesl87 : Nat → Int32) (m_weightsl87 : Nat → Int32) (m_classesl87 : Nat → Int32) (rc87 : Int32 → Int32 → (Nat → Int32) → (Nat → Int32) → (Nat → Int32) → (Nat → Int32) → (Option (Int32 × Int32 × (Nat → Int32) × (Nat → Int32) × (Nat → Int32) × (Nat → Int32) × (Nat → Int32)))) (x16 : Int32) (s0j140 : Int32) : Option (Int32 × Int32 × (Nat → Int32) × (Nat → Int32) × (Nat → Int32) × (Nat → Int32) × (Nat → Int32)) :=
  bd1 (rd m_kinds 10 v1) fun x18 => if x18 = 0 then
  (if x16 = 0 then
    (bd1 (mK5_codeOf v2 x8 i6l87) fun x20 => bd4 (mK5_offer m_changesl87 m_putsl87 m_codesl87 m_weightsl87 1 x20) fun x22 x23 x24 x25 => bd1 (some (i6l87 + 1)) fun x27 => rc87 x27 x22 x23 x24 x25 m_classesl87)
    else
    (bd1 (some (i6l87 + 1)) fun x19 => rc87 x19 m_changesl87 m_putsl87 m_codesl87 m_weightsl87 m_classesl87))
  else
  (if x18 = 1 then
  (if x16 = 0 then
    (bd1 (some (i6l87 + 1)) fun x28 => rc87 x28 m_changesl87 m_putsl87 m_codesl87 m_weightsl87 m_classesl87)
    else
    (bd1 (mK5_codeOf v2 x8 i6l87) fun x29 => bd4 (mK5_offer m_changesl87 m_putsl87 m_codesl87 m_weightsl87 0 x29) fun x31 x32 x33 x34 => bd1 (some (i6l87 + 1)) fun x36 => rc87 x36 x31 x32 x33 x34 m_classesl87))
  else
  (if x18 = 2 then
  (if x16 = 0 then
    (bd1 (some (i6l87 + 1)) fun x37 => rc87 x37 m_changesl87 m_putsl87 m_codesl87 m_weightsl87 m_classesl87)
    else
    (bd2 (mK5_isOfNow x3 m_classesl87 i6l87 x9) fun x38 x39 => if x38 = 0 then
      (bd1 (mK5_codeOf v2 x8 i6l87) fun x42 => bd4 (mK5_offer m_changesl87 m_putsl87 m_codesl87 m_weightsl87 0 x42) fun x44 x45 x46 x47 => bd1 (mK5_codeOf i6l87 0 x9) fun x49 => bd4 (mK5_offer x44 x45 x46 x47 1 x49) fun x51 x52 x53 x54 => bd1 (some (i6l87 + 1)) fun x56 => rc87 x56 x51 x52 x53 x54 x39)
      else
      (bd1 (some (i6l87 + 1)) fun x41 => rc87 x41 m_changesl87 m_putsl87 m_codesl87 m_weightsl87 x39)))
  else
  (if x18 = 3 then
  (if x16 = 0 then
    (bd1 (some (i6l87 + 1)) fun x57 => rc87 x57 m_changesl87 m_putsl87 m_codesl87 m_weightsl87 m_classesl87)
    else
    (if i6l87 = x9 then
      (bd1 (mK5_codeOf v2 x8 i6l87) fun x59 => bd4 (mK5_offer m_changesl87 m_putsl87 m_codesl87 m_weightsl87 0 x59) fun x61 x62 x63 x64 => bd1 (some (i6l87 + 1)) fun x66 => rc87 x66 x61 x62 x63 x64 m_classesl87)
      else
      (bd1 (some (i6l87 + 1)) fun x58 => rc87 x58 m_changesl87 m_putsl87 m_codesl87 m_weightsl87 m_classesl87)))
  else
  (if x18 = 4 then
  (if x16 = s0j140 then
    (bd1 (some (i6l87 + 1)) fun x67 => rc87 x67 m_changesl87 m_putsl87 m_codesl87 m_weightsl87 m_classesl87)
    else
    (if x16 = 0 then
      (mK5_suggest_J317 v2 x8 x9 i6l87 m_changesl87 m_putsl87 m_codesl87 m_weightsl87 m_classesl87 rc87 x16 1)
      else
      (mK5_suggest_J317 v2 x8 x9 i6l87 m_changesl87 m_putsl87 m_codesl87 m_weightsl87 m_classesl87 rc87 x16 0)))
  else
  (if x16 = 0 then
  (bd1 (some (i6l87 + 1)) fun x83 => rc87 x83 m_changesl87 m_putsl87 m_codesl87 m_weightsl87 m_classesl87)
  else
  (if s0j140 = 0 then
    (bd1 (some (i6l87 + 1)) fun x84 => rc87 x84 m_changesl87 m_putsl87 m_codesl87 m_weightsl87 m_classesl87)
    else
    (bd1 (mK5_codeOf v2 x8 i6l87) fun x85 => bd4 (mK5_offer m_changesl87 m_putsl87 m_codesl87 m_weightsl87 0 x85) fun x87 x88 x89 x90 => bd1 (mK5_codeOf v2 x9 i6l87) fun x92 => bd4 (mK5_offer x87 x88 x89 x90 0 x92) fun x94 x95 x96 x97 => bd1 (some (i6l87 + 1)) fun x99 => rc87 x99 x94 x95 x96 x97 m_classesl87)))))))
def mK5_suggest_J139 (m_kinds : Nat → Int32) (v1 : Int32) (v2 : Int32) (x3 : Nat → Int32) (x8 : Int32) (x9 : Int32) (i6l87 : Int32) (m_changesl87 : Int32) (m_putsl87 : Nat → Int32) (m_codesl87 : Nat → Int32) (m_weightsl87 : Nat → Int32) (m_classesl87 : Nat → Int32) (rc87 : Int32 → Int32 → (Nat → Int32) → (Nat → Int32) → (Nat → Int32) → (Nat → Int32) → (Option (Int32 × Int32 × (Nat → Int32) × (Nat → Int32) × (Nat → Int32) × (Nat → Int32) × (Nat → Int32)))) (x16 : Int32) : Option (Int32 × Int32 × (Nat → Int32) × (Nat → Int32) × (Nat → Int32) × (Nat → Int32) × (Nat → Int32)) :=
  mK5_suggest_J140 m_kinds v1 v2 x3 x8 x9 i6l87 m_changesl87 m_putsl87 m_codesl87 m_weightsl87 m_classesl87 rc87 x16 0
def mK5_suggest_B87 (m_kinds : Nat → Int32) (v1 : Int32) (v2 : Int32) (x3 : Nat → Int32) (x8 : Int32) (x9 : Int32) (kx87 : Int32 → (Nat → Int32) → (Nat → Int32) → (Nat → Int32) → (Nat → Int32) → (Option (Int32 × Int32 × (Nat → Int32) × (Nat → Int32) × (Nat → Int32) × (Nat → Int32) × (Nat → Int32)))) (rc87 : Int32 → Int32 → (Nat → Int32) → (Nat → Int32) → (Nat → Int32) → (Nat → Int32) → (Option (Int32 × Int32 × (Nat → Int32) × (Nat → Int32) × (Nat → Int32) × (Nat → Int32) × (Nat → Int32)))) (i6l87 : Int32) (m_changesl87 : Int32) (m_putsl87 : Nat → Int32) (m_codesl87 : Nat → Int32) (m_weightsl87 : Nat → Int32) (m_classesl87 : Nat → Int32) : Option (Int32 × Int32 × (Nat → Int32) × (Nat → Int32) × (Nat → Int32) × (Nat → Int32) × (Nat → Int32)) :=
  if 12 ≤ i6l87 then
  (kx87 m_changesl87 m_putsl87 m_codesl87 m_weightsl87 m_classesl87)
  else
  (bd1 (mK5_codeOf v2 x8 i6l87) fun x14 => bd1 (rd x3 864 x14) fun x16 => bd1 (rd m_kinds 10 v1) fun x17 => if x17 ≤ 3 then
    (mK5_suggest_J139 m_kinds v1 v2 x3 x8 x9 i6l87 m_changesl87 m_putsl87 m_codesl87 m_weightsl87 m_classesl87 rc87 x16)
    else
    (bd1 (mK5_codeOf v2 x9 i6l87) fun x100 => bd1 (rd x3 864 x100) fun x102 => if x102 = 0 then
      (mK5_suggest_J139 m_kinds v1 v2 x3 x8 x9 i6l87 m_changesl87 m_putsl87 m_codesl87 m_weightsl87 m_classesl87 rc87 x16)
      else
      (mK5_suggest_J140 m_kinds v1 v2 x3 x8 x9 i6l87 m_changesl87 m_putsl87 m_codesl87 m_weightsl87 m_classesl87 rc87 x16 1)))
def mK5_suggest_L87 (m_kinds : Nat → Int32) (v1 : Int32) (v2 : Int32) (x3 : Nat → Int32) (x8 : Int32) (x9 : Int32) (kx87 : Int32 → (Nat → Int32) → (Nat → Int32) → (Nat → Int32) → (Nat → Int32) → (Option (Int32 × Int32 × (Nat → Int32) × (Nat → Int32) × (Nat → Int32) × (Nat → Int32) × (Nat → Int32)))) : Nat → Int32 → Int32 → (Nat → Int32) → (Nat → Int32) → (Nat → Int32) → (Nat → Int32) → (Option (Int32 × Int32 × (Nat → Int32) × (Nat → Int32) × (Nat → Int32) × (Nat → Int32) × (Nat → Int32)))
  | 0, _, _, _, _, _, _ => none
  | n + 1, i6l87, m_changesl87, m_putsl87, m_codesl87, m_weightsl87, m_classesl87 => mK5_suggest_B87 m_kinds v1 v2 x3 x8 x9 kx87 (mK5_suggest_L87 m_kinds v1 v2 x3 x8 x9 kx87 n) i6l87 m_changesl87 m_putsl87 m_codesl87 m_weightsl87 m_classesl87
def mK5_suggest_J84 (m_changes : Int32) (m_kinds : Nat → Int32) (v1 : Int32) (v2 : Int32) (x3 : Nat → Int32) (x6 : Nat → Int32) (x8 : Int32) (x9 : Int32) (m_changesj84 : Int32) (m_putsj84 : Nat → Int32) (m_codesj84 : Nat → Int32) (m_weightsj84 : Nat → Int32) : Option (Int32 × Int32 × (Nat → Int32) × (Nat → Int32) × (Nat → Int32) × (Nat → Int32) × (Nat → Int32)) :=
  mK5_suggest_L87 m_kinds v1 v2 x3 x8 x9 (mK5_suggest_A87 m_changes x3) 5000 0 m_changesj84 m_putsj84 m_codesj84 m_weightsj84 x6
def mK5_suggest (m_rules : Int32) (m_changes : Int32) (m_there : Nat → Int32) (m_now : Nat → Int32) (m_kinds : Nat → Int32) (m_targets : Nat → Int32) (m_predicates : Nat → Int32) (m_numbers : Nat → Int32) (m_puts : Nat → Int32) (m_codes : Nat → Int32) (m_weights : Nat → Int32) (m_classes : Nat → Int32) (v1 : Int32) (v2 : Int32) : Option (Int32 × Int32 × (Nat → Int32) × (Nat → Int32) × (Nat → Int32) × (Nat → Int32) × (Nat → Int32)) :=
  bd1 (mK5_isPair m_rules v1 v2) fun x1 => if x1 = 0 then
  (some ((-1), m_changes, m_now, m_puts, m_codes, m_weights, m_classes))
  else
  (bd1 (mK5_begin m_changes m_there m_now m_puts m_codes 0) fun x3 => bd2 (mK5_isResult x3 m_kinds m_targets m_predicates m_numbers m_classes v1 v2) fun x5 x6 => if x5 = 0 then
    (some ((-2), m_changes, x3, m_puts, m_codes, m_weights, x6))
    else
    (bd1 (rd m_predicates 10 v1) fun x8 => bd1 (rd m_numbers 10 v1) fun x9 => bd1 (rd m_targets 10 v1) fun x10 => bd1 (mK5_codeOf v2 0 x10) fun x11 => bd1 (rd x3 864 x11) fun x13 => if x13 = 0 then
      (mK5_suggest_J84 m_changes m_kinds v1 v2 x3 x6 x8 x9 m_changes m_puts m_codes m_weights)
      else
      (bd1 (rd m_targets 10 v1) fun x103 => bd1 (mK5_codeOf v2 0 x103) fun x104 => bd4 (mK5_offer m_changes m_puts m_codes m_weights 0 x104) fun x106 x107 x108 x109 => mK5_suggest_J84 m_changes m_kinds v1 v2 x3 x6 x8 x9 x106 x107 x108 x109)))
abbrev rmK5_suggest : Room := { frames := 4, cells := 0, slots := 0, locals := 97 }
set_option maxHeartbeats 4000000 in
set_option maxRecDepth 100000 in
theorem kK5_suggest (l : Launch) (D : va_G) (cI cZ cB cC : ClassId) (sz : Nat) (m_a : Nat) (m_there_a : Nat) (m_now_a : Nat) (m_kinds_a : Nat) (m_targets_a : Nat) (m_predicates_a : Nat) (m_numbers_a : Nat) (m_puts_a : Nat) (m_codes_a : Nat) (m_weights_a : Nat) (m_sets_a : Nat) (m_picks_a : Nat) (m_classes_a : Nat) (m_steps_a : Nat) (m_told_a : Nat) (m_rules : Int32) (m_changes : Int32) (m_mostTries : Int32) (m_tried : Int32) (m_settled : Int32) (m_found : Int32) (m_isCovered : Int32) (m_covered : Int32) (m_toldMany : Int32) (m_there : Nat → Int32) (m_now : Nat → Int32) (m_kinds : Nat → Int32) (m_targets : Nat → Int32) (m_predicates : Nat → Int32) (m_numbers : Nat → Int32) (m_puts : Nat → Int32) (m_codes : Nat → Int32) (m_weights : Nat → Int32) (m_sets : Nat → Int32) (m_picks : Nat → Int32) (m_classes : Nat → Int32) (m_steps : Nat → Int32) (m_told : Nat → Int32) (v1 : Int32) (v2 : Int32) (r0 : Int32) (m_changes_r : Int32) (m_now_r : Nat → Int32) (m_puts_r : Nat → Int32) (m_codes_r : Nat → Int32) (m_weights_r : Nat → Int32) (m_classes_r : Nat → Int32) (hm : mK5_suggest m_rules m_changes m_there m_now m_kinds m_targets m_predicates m_numbers m_puts m_codes m_weights m_classes v1 v2 = some (r0, m_changes_r, m_now_r, m_puts_r, m_codes_r, m_weights_r, m_classes_r)) : Met l yK5_suggest wsK5_suggest rmK5_suggest (va_Pc [.ref m_a, .int v1, .int v2] (Pr D (tyL cI cZ cB cC) sz (wX m_a m_there_a m_now_a m_kinds_a m_targets_a m_predicates_a m_numbers_a m_puts_a m_codes_a m_weights_a m_sets_a m_picks_a m_classes_a m_steps_a m_told_a cI cZ cB cC m_rules m_changes m_mostTries m_tried m_settled m_found m_isCovered m_covered m_toldMany m_there m_now m_kinds m_targets m_predicates m_numbers m_puts m_codes m_weights m_sets m_picks m_classes m_steps m_told))) (QI D (va_A (wX m_a m_there_a m_now_a m_kinds_a m_targets_a m_predicates_a m_numbers_a m_puts_a m_codes_a m_weights_a m_sets_a m_picks_a m_classes_a m_steps_a m_told_a cI cZ cB cC m_rules m_changes m_mostTries m_tried m_settled m_found m_isCovered m_covered m_toldMany m_there m_now m_kinds m_targets m_predicates m_numbers m_puts m_codes m_weights m_sets m_picks m_classes m_steps m_told) sz) r0 (wX m_a m_there_a m_now_a m_kinds_a m_targets_a m_predicates_a m_numbers_a m_puts_a m_codes_a m_weights_a m_sets_a m_picks_a m_classes_a m_steps_a m_told_a cI cZ cB cC m_rules m_changes_r m_mostTries m_tried m_settled m_found m_isCovered m_covered m_toldMany m_there m_now_r m_kinds m_targets m_predicates m_numbers m_puts_r m_codes_r m_weights_r m_sets m_picks m_classes_r m_steps m_told)) 0 0 (va_A (wX m_a m_there_a m_now_a m_kinds_a m_targets_a m_predicates_a m_numbers_a m_puts_a m_codes_a m_weights_a m_sets_a m_picks_a m_classes_a m_steps_a m_told_a cI cZ cB cC m_rules m_changes m_mostTries m_tried m_settled m_found m_isCovered m_covered m_toldMany m_there m_now m_kinds m_targets m_predicates m_numbers m_puts m_codes m_weights m_sets m_picks m_classes m_steps m_told) sz) := by
  refine Met.ofW (cc := cK5_suggest) (maxL := 9) (ret := (some .int)) (by decide) rfl ?_
  intro p e s m args below meth c s₁ B hml hv
  obtain ⟨rfl, hsz, hP, hK, hD0, hN⟩ := hv
  have hx := B.exec
  have hb := B.bytes
  have hr := B.returns
  have hts := htsA (atoms_spec (ws := wsK5_suggest) B.pre)
  have hown : s.vm.findClass RK5 = some m.cls := findClass_of_methodNamed B.named
  have hlocks := B.notSynchronized
  subst hsz
  have hD := hD0.self (sz := s.heap.size)
  generalize hAe : va_A (wX m_a m_there_a m_now_a m_kinds_a m_targets_a m_predicates_a m_numbers_a m_puts_a m_codes_a m_weights_a m_sets_a m_picks_a m_classes_a m_steps_a m_told_a cI cZ cB cC m_rules m_changes m_mostTries m_tried m_settled m_found m_isCovered m_covered m_toldMany m_there m_now m_kinds m_targets m_predicates m_numbers m_puts m_codes m_weights m_sets m_picks m_classes m_steps m_told) s.heap.size = A at hD ⊢
  have hA : ∀ q : Nat, s.heap.size ≤ q → A q := fun q h => by rw [← hAe]; exact Or.inr h
  refine kstart (A := A) hP (fun H hP hS => ?_)
  have hl := lv_entry ([.ref m_a, .int v1, .int v2]) (n := 9) (Nat.le_of_ble_eq_true rfl)
  rw [lg_entry_eq]
  generalize (lg_sl ([.ref m_a, .int v1, .int v2]) ++ List.replicate (9 - (lg_sl ([.ref m_a, .int v1, .int v2])).length) Slot.unset).toArray = ls at hl ⊢
  have hl : lv_has ls 9 [(0, .ref m_a), (1, .int v1), (2, .int v2)] := hl
  unfold mK5_suggest at hm
  refine lv_aload_n hx hb dK5_suggest_0 rfl (lv_at hl 0 rfl) ?_
  refine lv_iload_n hx hb dK5_suggest_1 rfl (lv_at hl 1 rfl) ?_
  refine lv_iload_n hx hb dK5_suggest_2 rfl (lv_at hl 2 rfl) ?_
  obtain ⟨x1, ec2, hm⟩ := bd1_s hm
  have hPc := hP.sub (ws' := (wX m_a m_there_a m_now_a m_kinds_a m_targets_a m_predicates_a m_numbers_a m_puts_a m_codes_a m_weights_a m_sets_a m_picks_a m_classes_a m_steps_a m_told_a cI cZ cB cC m_rules m_changes m_mostTries m_tried m_settled m_found m_isCovered m_covered m_toldMany m_there m_now m_kinds m_targets m_predicates m_numbers m_puts m_codes m_weights m_sets m_picks m_classes m_steps m_told)) [0, 1, 2, 3, 4, 5, 6, 7, 8, 9, 10, 11, 12, 13, 14] rfl
  have hDc := hD.sub (ws' := (wX m_a m_there_a m_now_a m_kinds_a m_targets_a m_predicates_a m_numbers_a m_puts_a m_codes_a m_weights_a m_sets_a m_picks_a m_classes_a m_steps_a m_told_a cI cZ cB cC m_rules m_changes m_mostTries m_tried m_settled m_found m_isCovered m_covered m_toldMany m_there m_now m_kinds m_targets m_predicates m_numbers m_puts m_codes m_weights m_sets m_picks m_classes m_steps m_told)) [0, 1, 2, 3, 4, 5, 6, 7, 8, 9, 10, 11, 12, 13, 14] (by decide) rfl
  refine k_calli (wr := []) (w1 := (wX m_a m_there_a m_now_a m_kinds_a m_targets_a m_predicates_a m_numbers_a m_puts_a m_codes_a m_weights_a m_sets_a m_picks_a m_classes_a m_steps_a m_told_a cI cZ cB cC m_rules m_changes m_mostTries m_tried m_settled m_found m_isCovered m_covered m_toldMany m_there m_now m_kinds m_targets m_predicates m_numbers m_puts m_codes m_weights m_sets m_picks m_classes m_steps m_told)) (ws' := (wX m_a m_there_a m_now_a m_kinds_a m_targets_a m_predicates_a m_numbers_a m_puts_a m_codes_a m_weights_a m_sets_a m_picks_a m_classes_a m_steps_a m_told_a cI cZ cB cC m_rules m_changes m_mostTries m_tried m_settled m_found m_isCovered m_covered m_toldMany m_there m_now m_kinds m_targets m_predicates m_numbers m_puts m_codes m_weights m_sets m_picks m_classes m_steps m_told)) (va_runV (As := [.int v1, .int v2]) (rest := []) ⟨hx, hb, hml, hown, hts⟩ (kK5_isPair l D cI cZ cB cC H.size m_a m_there_a m_now_a m_kinds_a m_targets_a m_predicates_a m_numbers_a m_puts_a m_codes_a m_weights_a m_sets_a m_picks_a m_classes_a m_steps_a m_told_a m_rules m_changes m_mostTries m_tried m_settled m_found m_isCovered m_covered m_toldMany m_there m_now m_kinds m_targets m_predicates m_numbers m_puts m_codes m_weights m_sets m_picks m_classes m_steps m_told v1 v2 x1 ec2) (cwV 2 hts (gdV wdt4_93 wdt4_95 wds2_4 wdt1_10 gkK5_isPair) rfl rfl rfl (by decide +kernel) ⟨Nat.le_of_ble_eq_true rfl, Nat.le_of_ble_eq_true rfl⟩) ⟨Pr_blind, va_recv hK hPc (ci := 5) (q0 := 0) rfl rfl, fun U hU hW => ⟨rfl, Pr_at hK hN hPc hDc hU hW⟩⟩ rfl rfl hl.1 rfl (lv_room (Nat.le_of_ble_eq_true rfl)) dK5_suggest_3 ⟨Nat.le_of_ble_eq_true rfl, Nat.le_of_ble_eq_true rfl⟩) hP hD hS hA [0, 1, 2, 3, 4, 5, 6, 7, 8, 9, 10, 11, 12, 13, 14] [] [0, 1, 2, 3, 4, 5, 6, 7, 8, 9, 10, 11, 12, 13, 14] rfl rfl (by decide) (by decide) (by decide) rfl (fun H locs hP hD hS => ?_)
  refine lv_if_ne (tgt := 11) hx hb dK5_suggest_6 (by decide) (fun hc => ?_) (fun hc => ?_)
  · replace hm := iff_ hm hc
    refine lv_aload_n hx hb dK5_suggest_11 rfl (lv_at hl 0 rfl) ?_
    refine lv_iconst (v := 0) hx hb dK5_suggest_12 (by decide) ?_
    obtain ⟨x3, ec4, hm⟩ := bd1_s hm
    have hPc := hP.sub (ws' := (wX m_a m_there_a m_now_a m_kinds_a m_targets_a m_predicates_a m_numbers_a m_puts_a m_codes_a m_weights_a m_sets_a m_picks_a m_classes_a m_steps_a m_told_a cI cZ cB cC m_rules m_changes m_mostTries m_tried m_settled m_found m_isCovered m_covered m_toldMany m_there m_now m_kinds m_targets m_predicates m_numbers m_puts m_codes m_weights m_sets m_picks m_classes m_steps m_told)) [0, 1, 2, 3, 4, 5, 6, 7, 8, 9, 10, 11, 12, 13, 14] rfl
    have hDc := hD.sub (ws' := (wX m_a m_there_a m_now_a m_kinds_a m_targets_a m_predicates_a m_numbers_a m_puts_a m_codes_a m_weights_a m_sets_a m_picks_a m_classes_a m_steps_a m_told_a cI cZ cB cC m_rules m_changes m_mostTries m_tried m_settled m_found m_isCovered m_covered m_toldMany m_there m_now m_kinds m_targets m_predicates m_numbers m_puts m_codes m_weights m_sets m_picks m_classes m_steps m_told)) [0, 1, 2, 3, 4, 5, 6, 7, 8, 9, 10, 11, 12, 13, 14] (by decide) rfl
    refine k_callv (wr := []) (w1 := (wX m_a m_there_a m_now_a m_kinds_a m_targets_a m_predicates_a m_numbers_a m_puts_a m_codes_a m_weights_a m_sets_a m_picks_a m_classes_a m_steps_a m_told_a cI cZ cB cC m_rules m_changes m_mostTries m_tried m_settled m_found m_isCovered m_covered m_toldMany m_there x3 m_kinds m_targets m_predicates m_numbers m_puts m_codes m_weights m_sets m_picks m_classes m_steps m_told)) (ws' := (wX m_a m_there_a m_now_a m_kinds_a m_targets_a m_predicates_a m_numbers_a m_puts_a m_codes_a m_weights_a m_sets_a m_picks_a m_classes_a m_steps_a m_told_a cI cZ cB cC m_rules m_changes m_mostTries m_tried m_settled m_found m_isCovered m_covered m_toldMany m_there x3 m_kinds m_targets m_predicates m_numbers m_puts m_codes m_weights m_sets m_picks m_classes m_steps m_told)) (va_runV (As := [.int 0]) (rest := []) ⟨hx, hb, hml, hown, hts⟩ (kK5_begin l D cI cZ cB cC H.size m_a m_there_a m_now_a m_kinds_a m_targets_a m_predicates_a m_numbers_a m_puts_a m_codes_a m_weights_a m_sets_a m_picks_a m_classes_a m_steps_a m_told_a m_rules m_changes m_mostTries m_tried m_settled m_found m_isCovered m_covered m_toldMany m_there m_now m_kinds m_targets m_predicates m_numbers m_puts m_codes m_weights m_sets m_picks m_classes m_steps m_told 0 x3 ec4) (cwV 1 hts (gdV wdt4_41 wdt4_43 wds1_12 wdt1_10 gkK5_begin) rfl rfl rfl (by decide +kernel) ⟨Nat.le_of_ble_eq_true rfl, Nat.le_of_ble_eq_true rfl⟩) ⟨Pr_blind, va_recv hK hPc (ci := 5) (q0 := 0) rfl rfl, fun U hU hW => ⟨rfl, Pr_at hK hN hPc hDc hU hW⟩⟩ rfl rfl hl.1 rfl (lv_room (Nat.le_of_ble_eq_true rfl)) dK5_suggest_13 ⟨Nat.le_of_ble_eq_true rfl, Nat.le_of_ble_eq_true rfl⟩) hP hD hS hA [0, 1, 2, 3, 4, 5, 6, 7, 8, 9, 10, 11, 12, 13, 14] [] [0, 1, 2, 3, 4, 5, 6, 7, 8, 9, 10, 11, 12, 13, 14] rfl rfl (by decide) (by decide) (by decide) rfl (fun H locs hP hD hS => ?_)
    refine lv_aload_n hx hb dK5_suggest_16 rfl (lv_at hl 0 rfl) ?_
    refine lv_iload_n hx hb dK5_suggest_17 rfl (lv_at hl 1 rfl) ?_
    refine lv_iload_n hx hb dK5_suggest_18 rfl (lv_at hl 2 rfl) ?_
    obtain ⟨x5, x6, ec7, hm⟩ := bd2_s hm
    have hPc := hP.sub (ws' := (wX m_a m_there_a m_now_a m_kinds_a m_targets_a m_predicates_a m_numbers_a m_puts_a m_codes_a m_weights_a m_sets_a m_picks_a m_classes_a m_steps_a m_told_a cI cZ cB cC m_rules m_changes m_mostTries m_tried m_settled m_found m_isCovered m_covered m_toldMany m_there x3 m_kinds m_targets m_predicates m_numbers m_puts m_codes m_weights m_sets m_picks m_classes m_steps m_told)) [0, 1, 2, 3, 4, 5, 6, 7, 8, 9, 10, 11, 12, 13, 14] rfl
    have hDc := hD.sub (ws' := (wX m_a m_there_a m_now_a m_kinds_a m_targets_a m_predicates_a m_numbers_a m_puts_a m_codes_a m_weights_a m_sets_a m_picks_a m_classes_a m_steps_a m_told_a cI cZ cB cC m_rules m_changes m_mostTries m_tried m_settled m_found m_isCovered m_covered m_toldMany m_there x3 m_kinds m_targets m_predicates m_numbers m_puts m_codes m_weights m_sets m_picks m_classes m_steps m_told)) [0, 1, 2, 3, 4, 5, 6, 7, 8, 9, 10, 11, 12, 13, 14] (by decide) rfl
    refine k_calli (wr := []) (w1 := (wX m_a m_there_a m_now_a m_kinds_a m_targets_a m_predicates_a m_numbers_a m_puts_a m_codes_a m_weights_a m_sets_a m_picks_a m_classes_a m_steps_a m_told_a cI cZ cB cC m_rules m_changes m_mostTries m_tried m_settled m_found m_isCovered m_covered m_toldMany m_there x3 m_kinds m_targets m_predicates m_numbers m_puts m_codes m_weights m_sets m_picks x6 m_steps m_told)) (ws' := (wX m_a m_there_a m_now_a m_kinds_a m_targets_a m_predicates_a m_numbers_a m_puts_a m_codes_a m_weights_a m_sets_a m_picks_a m_classes_a m_steps_a m_told_a cI cZ cB cC m_rules m_changes m_mostTries m_tried m_settled m_found m_isCovered m_covered m_toldMany m_there x3 m_kinds m_targets m_predicates m_numbers m_puts m_codes m_weights m_sets m_picks x6 m_steps m_told)) (va_runV (As := [.int v1, .int v2]) (rest := []) ⟨hx, hb, hml, hown, hts⟩ (kK5_isResult l D cI cZ cB cC H.size m_a m_there_a m_now_a m_kinds_a m_targets_a m_predicates_a m_numbers_a m_puts_a m_codes_a m_weights_a m_sets_a m_picks_a m_classes_a m_steps_a m_told_a m_rules m_changes m_mostTries m_tried m_settled m_found m_isCovered m_covered m_toldMany m_there x3 m_kinds m_targets m_predicates m_numbers m_puts m_codes m_weights m_sets m_picks m_classes m_steps m_told v1 v2 x5 x6 ec7) (cwV 2 hts (gdV wdt4_49 wdt4_51 wds1_14 wdt1_10 gkK5_isResult) rfl rfl rfl (by decide +kernel) ⟨Nat.le_of_ble_eq_true rfl, Nat.le_of_ble_eq_true rfl⟩) ⟨Pr_blind, va_recv hK hPc (ci := 5) (q0 := 0) rfl rfl, fun U hU hW => ⟨rfl, Pr_at hK hN hPc hDc hU hW⟩⟩ rfl rfl hl.1 rfl (lv_room (Nat.le_of_ble_eq_true rfl)) dK5_suggest_19 ⟨Nat.le_of_ble_eq_true rfl, Nat.le_of_ble_eq_true rfl⟩) hP hD hS hA [0, 1, 2, 3, 4, 5, 6, 7, 8, 9, 10, 11, 12, 13, 14] [] [0, 1, 2, 3, 4, 5, 6, 7, 8, 9, 10, 11, 12, 13, 14] rfl rfl (by decide) (by decide) (by decide) rfl (fun H locs hP hD hS => ?_)
    refine lv_if_ne (tgt := 28) hx hb dK5_suggest_22 (by decide) (fun hc => ?_) (fun hc => ?_)
    · replace hm := iff_ hm hc
      refine lv_aload_n hx hb dK5_suggest_28 rfl (lv_at hl 0 rfl) ?_
      refine va_get (D := D) (ci := 5) (v := .int m_changes) (C := RK5) (T := TK5) (N := 23) hx hb hts inK5 hown hK hP 0 rfl rfl 7 (by decide) (hts _ wdt3_193) (fun _ h9 => h9) rfl dK5_suggest_29 ?_
      refine lv_istore_n (lv' := [(3, .int m_changes), (0, .ref m_a), (1, .int v1), (2, .int v2)]) hx hb dK5_suggest_32 rfl hl (by decide) rfl (fun ls hl => ?_)
      refine lv_aload_n hx hb dK5_suggest_33 rfl (lv_at hl 1 rfl) ?_
      refine va_get (D := D) (ci := 5) (v := .ref m_predicates_a) (C := RK5) (T := TK5) (N := 23) hx hb hts inK5 hown hK hP 0 rfl rfl 5 (by decide) (hts _ wdt3_191) (fun _ h9 => h9) rfl dK5_suggest_34 ?_
      refine lv_iload_n hx hb dK5_suggest_37 rfl (lv_at hl 2 rfl) ?_
      obtain ⟨x8, ex8, hm⟩ := bd1_s hm
      obtain ⟨hix8, ex8⟩ := rd_s ex8
      refine va_iald hx hb hK hP 5 0 rfl rfl hix8 dK5_suggest_38 ?_
      refine topi ex8 ?_
      refine lv_istore (lv' := [(4, .int x8), (3, .int m_changes), (0, .ref m_a), (1, .int v1), (2, .int v2)]) hx hb dK5_suggest_39 hl (by decide) rfl (fun ls hl => ?_)
      refine lv_aload_n hx hb dK5_suggest_41 rfl (lv_at hl 2 rfl) ?_
      refine va_get (D := D) (ci := 5) (v := .ref m_numbers_a) (C := RK5) (T := TK5) (N := 23) hx hb hts inK5 hown hK hP 0 rfl rfl 6 (by decide) (hts _ wdt3_192) (fun _ h9 => h9) rfl dK5_suggest_42 ?_
      refine lv_iload_n hx hb dK5_suggest_45 rfl (lv_at hl 3 rfl) ?_
      obtain ⟨x9, ex9, hm⟩ := bd1_s hm
      obtain ⟨hix9, ex9⟩ := rd_s ex9
      refine va_iald hx hb hK hP 6 0 rfl rfl hix9 dK5_suggest_46 ?_
      refine topi ex9 ?_
      refine lv_istore (lv' := [(5, .int x9), (4, .int x8), (3, .int m_changes), (0, .ref m_a), (1, .int v1), (2, .int v2)]) hx hb dK5_suggest_47 hl (by decide) rfl (fun ls hl => ?_)
      refine lv_aload_n hx hb dK5_suggest_49 rfl (lv_at hl 3 rfl) ?_
      refine va_get (D := D) (ci := 5) (v := .ref m_now_a) (C := RK5) (T := TK5) (N := 23) hx hb hts inK5 hown hK hP 0 rfl rfl 1 (by decide) (hts _ wdt3_187) (fun _ h9 => h9) rfl dK5_suggest_50 ?_
      refine lv_iload_n hx hb dK5_suggest_53 rfl (lv_at hl 5 rfl) ?_
      refine lv_iconst (v := 0) hx hb dK5_suggest_54 (by decide) ?_
      refine lv_aload_n hx hb dK5_suggest_55 rfl (lv_at hl 3 rfl) ?_
      refine va_get (D := D) (ci := 5) (v := .ref m_targets_a) (C := RK5) (T := TK5) (N := 23) hx hb hts inK5 hown hK hP 0 rfl rfl 4 (by decide) (hts _ wdt3_190) (fun _ h9 => h9) rfl dK5_suggest_56 ?_
      refine lv_iload_n hx hb dK5_suggest_59 rfl (lv_at hl 4 rfl) ?_
      obtain ⟨x10, ex10, hm⟩ := bd1_s hm
      obtain ⟨hix10, ex10⟩ := rd_s ex10
      refine va_iald hx hb hK hP 4 0 rfl rfl hix10 dK5_suggest_60 ?_
      refine topi ex10 ?_
      obtain ⟨x11, ec12, hm⟩ := bd1_s hm
      have hPc : va_P D vwCl [] H := va_P0
      have hDc : va_D A [] := va_D0
      refine k_calli0 (va_runS (As := [.int v2, .int 0, .int x10]) (rest := [.ref m_now_a]) ⟨hx, hb, hml, hown, hts⟩ (kK5_codeOf l D cI cZ cB cC H.size v2 0 x10 x11 ec12) (va_cwS 3 hts (gdS wdt4_26 wdt4_27 wdt1_10 gkK5_codeOf) rfl rfl rfl (by decide +kernel) ⟨Nat.le_of_ble_eq_true rfl, Nat.le_of_ble_eq_true rfl⟩) ⟨Pr_blind, fun U hU hW => ⟨rfl, Pr_at hK hN hPc hDc hU hW⟩⟩ rfl rfl hl.1 rfl (lv_room (Nat.le_of_ble_eq_true rfl)) dK5_suggest_61 ⟨Nat.le_of_ble_eq_true rfl, Nat.le_of_ble_eq_true rfl⟩) hP hD hS hA (fun H locs hP hD hS => ?_)
      obtain ⟨x13, ex13, hm⟩ := bd1_s hm
      obtain ⟨hix13, ex13⟩ := rd_s ex13
      refine va_zald hx hb hK hP 2 1 rfl rfl hix13 dK5_suggest_64 ?_
      refine topi ex13 ?_
      have jn84 : ∀ (m_changesj84 : Int32) (m_putsj84 : Nat → Int32) (m_codesj84 : Nat → Int32) (m_weightsj84 : Nat → Int32) (H : Heap) (locs : List Loc) (ls : Array Slot), mK5_suggest_J84 m_changes m_kinds v1 v2 x3 x6 x8 x9 m_changesj84 m_putsj84 m_codesj84 m_weightsj84 = some (r0, m_changes_r, m_now_r, m_puts_r, m_codes_r, m_weights_r, m_classes_r) → va_P D vwCl (wX m_a m_there_a m_now_a m_kinds_a m_targets_a m_predicates_a m_numbers_a m_puts_a m_codes_a m_weights_a m_sets_a m_picks_a m_classes_a m_steps_a m_told_a cI cZ cB cC m_rules m_changesj84 m_mostTries m_tried m_settled m_found m_isCovered m_covered m_toldMany m_there x3 m_kinds m_targets m_predicates m_numbers m_putsj84 m_codesj84 m_weightsj84 m_sets m_picks x6 m_steps m_told) H → va_D A (wX m_a m_there_a m_now_a m_kinds_a m_targets_a m_predicates_a m_numbers_a m_puts_a m_codes_a m_weights_a m_sets_a m_picks_a m_classes_a m_steps_a m_told_a cI cZ cB cC m_rules m_changesj84 m_mostTries m_tried m_settled m_found m_isCovered m_covered m_toldMany m_there x3 m_kinds m_targets m_predicates m_numbers m_putsj84 m_codesj84 m_weightsj84 m_sets m_picks x6 m_steps m_told) → va_S A s.heap H locs → lv_has ls 9 [(0, .ref m_a), (1, .int v1), (2, .int v2), (3, .int m_changes), (4, .int x8), (5, .int x9)] → W p l e (headSpec wsK5_suggest rmK5_suggest).room s m ([.ref m_a, .int v1, .int v2] : List Value).toArray below meth c H locs 0 0 (MQ below (QI D A r0 (wX m_a m_there_a m_now_a m_kinds_a m_targets_a m_predicates_a m_numbers_a m_puts_a m_codes_a m_weights_a m_sets_a m_picks_a m_classes_a m_steps_a m_told_a cI cZ cB cC m_rules m_changes_r m_mostTries m_tried m_settled m_found m_isCovered m_covered m_toldMany m_there m_now_r m_kinds m_targets m_predicates m_numbers m_puts_r m_codes_r m_weights_r m_sets m_picks m_classes_r m_steps m_told)) ([.ref m_a, .int v1, .int v2] : List Value).toArray s 0 0 A) (F0 m 84 ls []) := by
        intro m_changesj84 m_putsj84 m_codesj84 m_weightsj84 H locs ls hm hP hD hS hl
        unfold mK5_suggest_J84 at hm
        refine lv_iconst (v := 0) hx hb dK5_suggest_84 (by decide) ?_
        refine lv_istore (lv' := [(6, .int 0), (0, .ref m_a), (1, .int v1), (2, .int v2), (3, .int m_changes), (4, .int x8), (5, .int x9)]) hx hb dK5_suggest_85 hl (by decide) rfl (fun ls hl => ?_)
        have lx87 : ∀ (m_changesx87 : Int32) (m_putsx87 : Nat → Int32) (m_codesx87 : Nat → Int32) (m_weightsx87 : Nat → Int32) (m_classesx87 : Nat → Int32) (H : Heap) (locs : List Loc) (ls : Array Slot), mK5_suggest_A87 m_changes x3 m_changesx87 m_putsx87 m_codesx87 m_weightsx87 m_classesx87 = some (r0, m_changes_r, m_now_r, m_puts_r, m_codes_r, m_weights_r, m_classes_r) → va_P D vwCl (wX m_a m_there_a m_now_a m_kinds_a m_targets_a m_predicates_a m_numbers_a m_puts_a m_codes_a m_weights_a m_sets_a m_picks_a m_classes_a m_steps_a m_told_a cI cZ cB cC m_rules m_changesx87 m_mostTries m_tried m_settled m_found m_isCovered m_covered m_toldMany m_there x3 m_kinds m_targets m_predicates m_numbers m_putsx87 m_codesx87 m_weightsx87 m_sets m_picks m_classesx87 m_steps m_told) H → va_D A (wX m_a m_there_a m_now_a m_kinds_a m_targets_a m_predicates_a m_numbers_a m_puts_a m_codes_a m_weights_a m_sets_a m_picks_a m_classes_a m_steps_a m_told_a cI cZ cB cC m_rules m_changesx87 m_mostTries m_tried m_settled m_found m_isCovered m_covered m_toldMany m_there x3 m_kinds m_targets m_predicates m_numbers m_putsx87 m_codesx87 m_weightsx87 m_sets m_picks m_classesx87 m_steps m_told) → va_S A s.heap H locs → lv_has ls 9 [(0, .ref m_a), (3, .int m_changes)] → W p l e (headSpec wsK5_suggest rmK5_suggest).room s m ([.ref m_a, .int v1, .int v2] : List Value).toArray below meth c H locs 0 0 (MQ below (QI D A r0 (wX m_a m_there_a m_now_a m_kinds_a m_targets_a m_predicates_a m_numbers_a m_puts_a m_codes_a m_weights_a m_sets_a m_picks_a m_classes_a m_steps_a m_told_a cI cZ cB cC m_rules m_changes_r m_mostTries m_tried m_settled m_found m_isCovered m_covered m_toldMany m_there m_now_r m_kinds m_targets m_predicates m_numbers m_puts_r m_codes_r m_weights_r m_sets m_picks m_classes_r m_steps m_told)) ([.ref m_a, .int v1, .int v2] : List Value).toArray s 0 0 A) (F0 m 387 ls []) := by
          intro m_changesx87 m_putsx87 m_codesx87 m_weightsx87 m_classesx87 H locs ls hm hP hD hS hl
          unfold mK5_suggest_A87 at hm
          refine lv_aload_n hx hb dK5_suggest_387 rfl (lv_at hl 0 rfl) ?_
          refine va_get (D := D) (ci := 5) (v := .int m_changesx87) (C := RK5) (T := TK5) (N := 23) hx hb hts inK5 hown hK hP 0 rfl rfl 7 (by decide) (hts _ wdt3_193) (fun _ h9 => h9) rfl dK5_suggest_388 ?_
          refine lv_iload_n hx hb dK5_suggest_391 rfl (lv_at hl 1 rfl) ?_
          refine lv_isub hx hb dK5_suggest_392 ?_
          replace hm := Option.some.inj hm
          simp only [Prod.mk.injEq] at hm
          obtain ⟨rfl, rfl, rfl, rfl, rfl, rfl, rfl⟩ := hm
          exact k_reti hx hb hr hlocks hP hD hS dK5_suggest_393
        have lp87 : ∀ (n87 : Nat) (i6l87 : Int32) (m_changesl87 : Int32) (m_putsl87 : Nat → Int32) (m_codesl87 : Nat → Int32) (m_weightsl87 : Nat → Int32) (m_classesl87 : Nat → Int32) (H : Heap) (locs : List Loc) (ls : Array Slot), mK5_suggest_L87 m_kinds v1 v2 x3 x8 x9 (mK5_suggest_A87 m_changes x3) n87 i6l87 m_changesl87 m_putsl87 m_codesl87 m_weightsl87 m_classesl87 = some (r0, m_changes_r, m_now_r, m_puts_r, m_codes_r, m_weights_r, m_classes_r) → va_P D vwCl (wX m_a m_there_a m_now_a m_kinds_a m_targets_a m_predicates_a m_numbers_a m_puts_a m_codes_a m_weights_a m_sets_a m_picks_a m_classes_a m_steps_a m_told_a cI cZ cB cC m_rules m_changesl87 m_mostTries m_tried m_settled m_found m_isCovered m_covered m_toldMany m_there x3 m_kinds m_targets m_predicates m_numbers m_putsl87 m_codesl87 m_weightsl87 m_sets m_picks m_classesl87 m_steps m_told) H → va_D A (wX m_a m_there_a m_now_a m_kinds_a m_targets_a m_predicates_a m_numbers_a m_puts_a m_codes_a m_weights_a m_sets_a m_picks_a m_classes_a m_steps_a m_told_a cI cZ cB cC m_rules m_changesl87 m_mostTries m_tried m_settled m_found m_isCovered m_covered m_toldMany m_there x3 m_kinds m_targets m_predicates m_numbers m_putsl87 m_codesl87 m_weightsl87 m_sets m_picks m_classesl87 m_steps m_told) → va_S A s.heap H locs → lv_has ls 9 [(6, .int i6l87), (0, .ref m_a), (1, .int v1), (2, .int v2), (3, .int m_changes), (4, .int x8), (5, .int x9)] → W p l e (headSpec wsK5_suggest rmK5_suggest).room s m ([.ref m_a, .int v1, .int v2] : List Value).toArray below meth c H locs 0 0 (MQ below (QI D A r0 (wX m_a m_there_a m_now_a m_kinds_a m_targets_a m_predicates_a m_numbers_a m_puts_a m_codes_a m_weights_a m_sets_a m_picks_a m_classes_a m_steps_a m_told_a cI cZ cB cC m_rules m_changes_r m_mostTries m_tried m_settled m_found m_isCovered m_covered m_toldMany m_there m_now_r m_kinds m_targets m_predicates m_numbers m_puts_r m_codes_r m_weights_r m_sets m_picks m_classes_r m_steps m_told)) ([.ref m_a, .int v1, .int v2] : List Value).toArray s 0 0 A) (F0 m 87 ls []) := by
          intro n87
          induction n87 with
          | zero => intro i6l87 m_changesl87 m_putsl87 m_codesl87 m_weightsl87 m_classesl87 H locs ls hm; exact nomatch (show none = _ from hm)
          | succ n87 ih87 =>
            intro i6l87 m_changesl87 m_putsl87 m_codesl87 m_weightsl87 m_classesl87 H locs ls hm hP hD hS hl
            replace hm : mK5_suggest_B87 m_kinds v1 v2 x3 x8 x9 (mK5_suggest_A87 m_changes x3) (mK5_suggest_L87 m_kinds v1 v2 x3 x8 x9 (mK5_suggest_A87 m_changes x3) n87) i6l87 m_changesl87 m_putsl87 m_codesl87 m_weightsl87 m_classesl87 = some (r0, m_changes_r, m_now_r, m_puts_r, m_codes_r, m_weights_r, m_classes_r) := hm
            unfold mK5_suggest_B87 at hm
            refine lv_iload hx hb dK5_suggest_87 (lv_at hl 0 rfl) ?_
            refine lv_bipush (v := 12) hx hb dK5_suggest_89 (by decide) ?_
            refine lv_icmp_ge (tgt := 387) hx hb dK5_suggest_91 (by decide) (fun hc => ?_) (fun hc => ?_)
            · replace hm := ift hm hc
              exact lx87 m_changesl87 m_putsl87 m_codesl87 m_weightsl87 m_classesl87 _ _ _ hm hP hD hS (lv_sub hl [1, 4] rfl)
            · replace hm := iff_ hm hc
              refine lv_aload_n hx hb dK5_suggest_94 rfl (lv_at hl 1 rfl) ?_
              refine va_get (D := D) (ci := 5) (v := .ref m_now_a) (C := RK5) (T := TK5) (N := 23) hx hb hts inK5 hown hK hP 0 rfl rfl 1 (by decide) (hts _ wdt3_187) (fun _ h9 => h9) rfl dK5_suggest_95 ?_
              refine lv_iload_n hx hb dK5_suggest_98 rfl (lv_at hl 3 rfl) ?_
              refine lv_iload hx hb dK5_suggest_99 (lv_at hl 5 rfl) ?_
              refine lv_iload hx hb dK5_suggest_101 (lv_at hl 0 rfl) ?_
              obtain ⟨x14, ec15, hm⟩ := bd1_s hm
              have hPc : va_P D vwCl [] H := va_P0
              have hDc : va_D A [] := va_D0
              refine k_calli0 (va_runS (As := [.int v2, .int x8, .int i6l87]) (rest := [.ref m_now_a]) ⟨hx, hb, hml, hown, hts⟩ (kK5_codeOf l D cI cZ cB cC H.size v2 x8 i6l87 x14 ec15) (va_cwS 3 hts (gdS wdt4_26 wdt4_27 wdt1_10 gkK5_codeOf) rfl rfl rfl (by decide +kernel) ⟨Nat.le_of_ble_eq_true rfl, Nat.le_of_ble_eq_true rfl⟩) ⟨Pr_blind, fun U hU hW => ⟨rfl, Pr_at hK hN hPc hDc hU hW⟩⟩ rfl rfl hl.1 rfl (lv_room (Nat.le_of_ble_eq_true rfl)) dK5_suggest_103 ⟨Nat.le_of_ble_eq_true rfl, Nat.le_of_ble_eq_true rfl⟩) hP hD hS hA (fun H locs hP hD hS => ?_)
              obtain ⟨x16, ex16, hm⟩ := bd1_s hm
              obtain ⟨hix16, ex16⟩ := rd_s ex16
              refine va_zald hx hb hK hP 2 1 rfl rfl hix16 dK5_suggest_106 ?_
              refine topi ex16 ?_
              refine lv_istore (lv' := [(7, .int x16), (6, .int i6l87), (0, .ref m_a), (1, .int v1), (2, .int v2), (3, .int m_changes), (4, .int x8), (5, .int x9)]) hx hb dK5_suggest_107 hl (by decide) rfl (fun ls hl => ?_)
              refine lv_aload_n hx hb dK5_suggest_109 rfl (lv_at hl 2 rfl) ?_
              refine va_get (D := D) (ci := 5) (v := .ref m_kinds_a) (C := RK5) (T := TK5) (N := 23) hx hb hts inK5 hown hK hP 0 rfl rfl 3 (by decide) (hts _ wdt3_189) (fun _ h9 => h9) rfl dK5_suggest_110 ?_
              refine lv_iload_n hx hb dK5_suggest_113 rfl (lv_at hl 3 rfl) ?_
              obtain ⟨x17, ex17, hm⟩ := bd1_s hm
              obtain ⟨hix17, ex17⟩ := rd_s ex17
              refine va_iald hx hb hK hP 3 0 rfl rfl hix17 dK5_suggest_114 ?_
              refine topi ex17 ?_
              refine lv_iconst (v := 3) hx hb dK5_suggest_115 (by decide) ?_
              have jn140 : ∀ (s0j140 : Int32) (H : Heap) (locs : List Loc) (ls : Array Slot), mK5_suggest_J140 m_kinds v1 v2 x3 x8 x9 i6l87 m_changesl87 m_putsl87 m_codesl87 m_weightsl87 m_classesl87 (mK5_suggest_L87 m_kinds v1 v2 x3 x8 x9 (mK5_suggest_A87 m_changes x3) n87) x16 s0j140 = some (r0, m_changes_r, m_now_r, m_puts_r, m_codes_r, m_weights_r, m_classes_r) → va_P D vwCl (wX m_a m_there_a m_now_a m_kinds_a m_targets_a m_predicates_a m_numbers_a m_puts_a m_codes_a m_weights_a m_sets_a m_picks_a m_classes_a m_steps_a m_told_a cI cZ cB cC m_rules m_changesl87 m_mostTries m_tried m_settled m_found m_isCovered m_covered m_toldMany m_there x3 m_kinds m_targets m_predicates m_numbers m_putsl87 m_codesl87 m_weightsl87 m_sets m_picks m_classesl87 m_steps m_told) H → va_D A (wX m_a m_there_a m_now_a m_kinds_a m_targets_a m_predicates_a m_numbers_a m_puts_a m_codes_a m_weights_a m_sets_a m_picks_a m_classes_a m_steps_a m_told_a cI cZ cB cC m_rules m_changesl87 m_mostTries m_tried m_settled m_found m_isCovered m_covered m_toldMany m_there x3 m_kinds m_targets m_predicates m_numbers m_putsl87 m_codesl87 m_weightsl87 m_sets m_picks m_classesl87 m_steps m_told) → va_S A s.heap H locs → lv_has ls 9 [(0, .ref m_a), (1, .int v1), (2, .int v2), (3, .int m_changes), (4, .int x8), (5, .int x9), (6, .int i6l87), (7, .int x16)] → W p l e (headSpec wsK5_suggest rmK5_suggest).room s m ([.ref m_a, .int v1, .int v2] : List Value).toArray below meth c H locs 0 0 (MQ below (QI D A r0 (wX m_a m_there_a m_now_a m_kinds_a m_targets_a m_predicates_a m_numbers_a m_puts_a m_codes_a m_weights_a m_sets_a m_picks_a m_classes_a m_steps_a m_told_a cI cZ cB cC m_rules m_changes_r m_mostTries m_tried m_settled m_found m_isCovered m_covered m_toldMany m_there m_now_r m_kinds m_targets m_predicates m_numbers m_puts_r m_codes_r m_weights_r m_sets m_picks m_classes_r m_steps m_told)) ([.ref m_a, .int v1, .int v2] : List Value).toArray s 0 0 A) (F0 m 140 ls [.int s0j140]) := by
                intro s0j140 H locs ls hm hP hD hS hl
                unfold mK5_suggest_J140 at hm
                refine lv_istore (lv' := [(8, .int s0j140), (0, .ref m_a), (1, .int v1), (2, .int v2), (3, .int m_changes), (4, .int x8), (5, .int x9), (6, .int i6l87), (7, .int x16)]) hx hb dK5_suggest_140 hl (by decide) rfl (fun ls hl => ?_)
                refine lv_aload_n hx hb dK5_suggest_142 rfl (lv_at hl 1 rfl) ?_
                refine va_get (D := D) (ci := 5) (v := .ref m_kinds_a) (C := RK5) (T := TK5) (N := 23) hx hb hts inK5 hown hK hP 0 rfl rfl 3 (by decide) (hts _ wdt3_189) (fun _ h9 => h9) rfl dK5_suggest_143 ?_
                refine lv_iload_n hx hb dK5_suggest_146 rfl (lv_at hl 2 rfl) ?_
                obtain ⟨x18, ex18, hm⟩ := bd1_s hm
                obtain ⟨hix18, ex18⟩ := rd_s ex18
                refine va_iald hx hb hK hP 3 0 rfl rfl hix18 dK5_suggest_147 ?_
                refine topi ex18 ?_
                by_cases hc148_0 : x18 = 0
                · replace hm := ift hm hc148_0
                  refine topi hc148_0 ?_
                  refine lv_tableIn (tgt := 184) hx hb dK5_suggest_148 (by decide) (by decide) rfl (by decide) ?_
                  refine lv_iload hx hb dK5_suggest_184 (lv_at hl 8 rfl) ?_
                  refine lv_if_ne (tgt := 381) hx hb dK5_suggest_186 (by decide) (fun hc => ?_) (fun hc => ?_)
                  · replace hm := iff_ hm hc
                    obtain ⟨x19, ex19, hm⟩ := bd1_s hm
                    refine lv_iinc (v := x19) (lv' := [(6, .int x19), (8, .int s0j140), (0, .ref m_a), (1, .int v1), (2, .int v2), (3, .int m_changes), (4, .int x8), (5, .int x9), (7, .int x16)]) hx hb dK5_suggest_381 hl (k := 7) rfl (by rw [← Option.some.inj ex19]; rfl) (by decide) rfl (fun ls hl => ?_)
                    refine lv_goto (tgt := 87) hx hb dK5_suggest_384 (by decide) ?_
                    exact ih87 x19 m_changesl87 m_putsl87 m_codesl87 m_weightsl87 m_classesl87 _ _ _ hm hP hD hS (lv_sub hl [0, 2, 3, 4, 5, 6, 7] rfl)
                  · replace hm := ift hm hc
                    refine lv_aload_n hx hb dK5_suggest_189 rfl (lv_at hl 1 rfl) ?_
                    refine lv_iconst (v := 1) hx hb dK5_suggest_190 (by decide) ?_
                    refine lv_iload_n hx hb dK5_suggest_191 rfl (lv_at hl 3 rfl) ?_
                    refine lv_iload hx hb dK5_suggest_192 (lv_at hl 5 rfl) ?_
                    refine lv_iload hx hb dK5_suggest_194 (lv_at hl 7 rfl) ?_
                    obtain ⟨x20, ec21, hm⟩ := bd1_s hm
                    have hPc : va_P D vwCl [] H := va_P0
                    have hDc : va_D A [] := va_D0
                    refine k_calli0 (va_runS (As := [.int v2, .int x8, .int i6l87]) (rest := [.int 1, .ref m_a]) ⟨hx, hb, hml, hown, hts⟩ (kK5_codeOf l D cI cZ cB cC H.size v2 x8 i6l87 x20 ec21) (va_cwS 3 hts (gdS wdt4_26 wdt4_27 wdt1_10 gkK5_codeOf) rfl rfl rfl (by decide +kernel) ⟨Nat.le_of_ble_eq_true rfl, Nat.le_of_ble_eq_true rfl⟩) ⟨Pr_blind, fun U hU hW => ⟨rfl, Pr_at hK hN hPc hDc hU hW⟩⟩ rfl rfl hl.1 rfl (lv_room (Nat.le_of_ble_eq_true rfl)) dK5_suggest_196 ⟨Nat.le_of_ble_eq_true rfl, Nat.le_of_ble_eq_true rfl⟩) hP hD hS hA (fun H locs hP hD hS => ?_)
                    obtain ⟨x22, x23, x24, x25, ec26, hm⟩ := bd4_s hm
                    have hPc := hP.sub (ws' := (wX m_a m_there_a m_now_a m_kinds_a m_targets_a m_predicates_a m_numbers_a m_puts_a m_codes_a m_weights_a m_sets_a m_picks_a m_classes_a m_steps_a m_told_a cI cZ cB cC m_rules m_changesl87 m_mostTries m_tried m_settled m_found m_isCovered m_covered m_toldMany m_there x3 m_kinds m_targets m_predicates m_numbers m_putsl87 m_codesl87 m_weightsl87 m_sets m_picks m_classesl87 m_steps m_told)) [0, 1, 2, 3, 4, 5, 6, 7, 8, 9, 10, 11, 12, 13, 14] rfl
                    have hDc := hD.sub (ws' := (wX m_a m_there_a m_now_a m_kinds_a m_targets_a m_predicates_a m_numbers_a m_puts_a m_codes_a m_weights_a m_sets_a m_picks_a m_classes_a m_steps_a m_told_a cI cZ cB cC m_rules m_changesl87 m_mostTries m_tried m_settled m_found m_isCovered m_covered m_toldMany m_there x3 m_kinds m_targets m_predicates m_numbers m_putsl87 m_codesl87 m_weightsl87 m_sets m_picks m_classesl87 m_steps m_told)) [0, 1, 2, 3, 4, 5, 6, 7, 8, 9, 10, 11, 12, 13, 14] (by decide) rfl
                    refine k_callv (wr := []) (w1 := (wX m_a m_there_a m_now_a m_kinds_a m_targets_a m_predicates_a m_numbers_a m_puts_a m_codes_a m_weights_a m_sets_a m_picks_a m_classes_a m_steps_a m_told_a cI cZ cB cC m_rules x22 m_mostTries m_tried m_settled m_found m_isCovered m_covered m_toldMany m_there x3 m_kinds m_targets m_predicates m_numbers x23 x24 x25 m_sets m_picks m_classesl87 m_steps m_told)) (ws' := (wX m_a m_there_a m_now_a m_kinds_a m_targets_a m_predicates_a m_numbers_a m_puts_a m_codes_a m_weights_a m_sets_a m_picks_a m_classes_a m_steps_a m_told_a cI cZ cB cC m_rules x22 m_mostTries m_tried m_settled m_found m_isCovered m_covered m_toldMany m_there x3 m_kinds m_targets m_predicates m_numbers x23 x24 x25 m_sets m_picks m_classesl87 m_steps m_told)) (va_runV (As := [.int 1, .int x20]) (rest := []) ⟨hx, hb, hml, hown, hts⟩ (kK5_offer l D cI cZ cB cC H.size m_a m_there_a m_now_a m_kinds_a m_targets_a m_predicates_a m_numbers_a m_puts_a m_codes_a m_weights_a m_sets_a m_picks_a m_classes_a m_steps_a m_told_a m_rules m_changesl87 m_mostTries m_tried m_settled m_found m_isCovered m_covered m_toldMany m_there x3 m_kinds m_targets m_predicates m_numbers m_putsl87 m_codesl87 m_weightsl87 m_sets m_picks m_classesl87 m_steps m_told 1 x20 x22 x23 x24 x25 ec26) (cwV 2 hts (gdV wdt4_97 wdt4_99 wds2_5 wdt1_10 gkK5_offer) rfl rfl rfl (by decide +kernel) ⟨Nat.le_of_ble_eq_true rfl, Nat.le_of_ble_eq_true rfl⟩) ⟨Pr_blind, va_recv hK hPc (ci := 5) (q0 := 0) rfl rfl, fun U hU hW => ⟨rfl, Pr_at hK hN hPc hDc hU hW⟩⟩ rfl rfl hl.1 rfl (lv_room (Nat.le_of_ble_eq_true rfl)) dK5_suggest_199 ⟨Nat.le_of_ble_eq_true rfl, Nat.le_of_ble_eq_true rfl⟩) hP hD hS hA [0, 1, 2, 3, 4, 5, 6, 7, 8, 9, 10, 11, 12, 13, 14] [] [0, 1, 2, 3, 4, 5, 6, 7, 8, 9, 10, 11, 12, 13, 14] rfl rfl (by decide) (by decide) (by decide) rfl (fun H locs hP hD hS => ?_)
                    refine lv_goto (tgt := 381) hx hb dK5_suggest_202 (by decide) ?_
                    obtain ⟨x27, ex27, hm⟩ := bd1_s hm
                    refine lv_iinc (v := x27) (lv' := [(6, .int x27), (8, .int s0j140), (0, .ref m_a), (1, .int v1), (2, .int v2), (3, .int m_changes), (4, .int x8), (5, .int x9), (7, .int x16)]) hx hb dK5_suggest_381 hl (k := 7) rfl (by rw [← Option.some.inj ex27]; rfl) (by decide) rfl (fun ls hl => ?_)
                    refine lv_goto (tgt := 87) hx hb dK5_suggest_384 (by decide) ?_
                    exact ih87 x27 x22 x23 x24 x25 m_classesl87 _ _ _ hm hP hD hS (lv_sub hl [0, 2, 3, 4, 5, 6, 7] rfl)
                · replace hm := iff_ hm hc148_0
                  by_cases hc148_1 : x18 = 1
                  · replace hm := ift hm hc148_1
                    refine topi hc148_1 ?_
                    refine lv_tableIn (tgt := 205) hx hb dK5_suggest_148 (by decide) (by decide) rfl (by decide) ?_
                    refine lv_iload hx hb dK5_suggest_205 (lv_at hl 8 rfl) ?_
                    refine lv_if_eq (tgt := 381) hx hb dK5_suggest_207 (by decide) (fun hc => ?_) (fun hc => ?_)
                    · replace hm := ift hm hc
                      obtain ⟨x28, ex28, hm⟩ := bd1_s hm
                      refine lv_iinc (v := x28) (lv' := [(6, .int x28), (8, .int s0j140), (0, .ref m_a), (1, .int v1), (2, .int v2), (3, .int m_changes), (4, .int x8), (5, .int x9), (7, .int x16)]) hx hb dK5_suggest_381 hl (k := 7) rfl (by rw [← Option.some.inj ex28]; rfl) (by decide) rfl (fun ls hl => ?_)
                      refine lv_goto (tgt := 87) hx hb dK5_suggest_384 (by decide) ?_
                      exact ih87 x28 m_changesl87 m_putsl87 m_codesl87 m_weightsl87 m_classesl87 _ _ _ hm hP hD hS (lv_sub hl [0, 2, 3, 4, 5, 6, 7] rfl)
                    · replace hm := iff_ hm hc
                      refine lv_aload_n hx hb dK5_suggest_210 rfl (lv_at hl 1 rfl) ?_
                      refine lv_iconst (v := 0) hx hb dK5_suggest_211 (by decide) ?_
                      refine lv_iload_n hx hb dK5_suggest_212 rfl (lv_at hl 3 rfl) ?_
                      refine lv_iload hx hb dK5_suggest_213 (lv_at hl 5 rfl) ?_
                      refine lv_iload hx hb dK5_suggest_215 (lv_at hl 7 rfl) ?_
                      obtain ⟨x29, ec30, hm⟩ := bd1_s hm
                      have hPc : va_P D vwCl [] H := va_P0
                      have hDc : va_D A [] := va_D0
                      refine k_calli0 (va_runS (As := [.int v2, .int x8, .int i6l87]) (rest := [.int 0, .ref m_a]) ⟨hx, hb, hml, hown, hts⟩ (kK5_codeOf l D cI cZ cB cC H.size v2 x8 i6l87 x29 ec30) (va_cwS 3 hts (gdS wdt4_26 wdt4_27 wdt1_10 gkK5_codeOf) rfl rfl rfl (by decide +kernel) ⟨Nat.le_of_ble_eq_true rfl, Nat.le_of_ble_eq_true rfl⟩) ⟨Pr_blind, fun U hU hW => ⟨rfl, Pr_at hK hN hPc hDc hU hW⟩⟩ rfl rfl hl.1 rfl (lv_room (Nat.le_of_ble_eq_true rfl)) dK5_suggest_217 ⟨Nat.le_of_ble_eq_true rfl, Nat.le_of_ble_eq_true rfl⟩) hP hD hS hA (fun H locs hP hD hS => ?_)
                      obtain ⟨x31, x32, x33, x34, ec35, hm⟩ := bd4_s hm
                      have hPc := hP.sub (ws' := (wX m_a m_there_a m_now_a m_kinds_a m_targets_a m_predicates_a m_numbers_a m_puts_a m_codes_a m_weights_a m_sets_a m_picks_a m_classes_a m_steps_a m_told_a cI cZ cB cC m_rules m_changesl87 m_mostTries m_tried m_settled m_found m_isCovered m_covered m_toldMany m_there x3 m_kinds m_targets m_predicates m_numbers m_putsl87 m_codesl87 m_weightsl87 m_sets m_picks m_classesl87 m_steps m_told)) [0, 1, 2, 3, 4, 5, 6, 7, 8, 9, 10, 11, 12, 13, 14] rfl
                      have hDc := hD.sub (ws' := (wX m_a m_there_a m_now_a m_kinds_a m_targets_a m_predicates_a m_numbers_a m_puts_a m_codes_a m_weights_a m_sets_a m_picks_a m_classes_a m_steps_a m_told_a cI cZ cB cC m_rules m_changesl87 m_mostTries m_tried m_settled m_found m_isCovered m_covered m_toldMany m_there x3 m_kinds m_targets m_predicates m_numbers m_putsl87 m_codesl87 m_weightsl87 m_sets m_picks m_classesl87 m_steps m_told)) [0, 1, 2, 3, 4, 5, 6, 7, 8, 9, 10, 11, 12, 13, 14] (by decide) rfl
                      refine k_callv (wr := []) (w1 := (wX m_a m_there_a m_now_a m_kinds_a m_targets_a m_predicates_a m_numbers_a m_puts_a m_codes_a m_weights_a m_sets_a m_picks_a m_classes_a m_steps_a m_told_a cI cZ cB cC m_rules x31 m_mostTries m_tried m_settled m_found m_isCovered m_covered m_toldMany m_there x3 m_kinds m_targets m_predicates m_numbers x32 x33 x34 m_sets m_picks m_classesl87 m_steps m_told)) (ws' := (wX m_a m_there_a m_now_a m_kinds_a m_targets_a m_predicates_a m_numbers_a m_puts_a m_codes_a m_weights_a m_sets_a m_picks_a m_classes_a m_steps_a m_told_a cI cZ cB cC m_rules x31 m_mostTries m_tried m_settled m_found m_isCovered m_covered m_toldMany m_there x3 m_kinds m_targets m_predicates m_numbers x32 x33 x34 m_sets m_picks m_classesl87 m_steps m_told)) (va_runV (As := [.int 0, .int x29]) (rest := []) ⟨hx, hb, hml, hown, hts⟩ (kK5_offer l D cI cZ cB cC H.size m_a m_there_a m_now_a m_kinds_a m_targets_a m_predicates_a m_numbers_a m_puts_a m_codes_a m_weights_a m_sets_a m_picks_a m_classes_a m_steps_a m_told_a m_rules m_changesl87 m_mostTries m_tried m_settled m_found m_isCovered m_covered m_toldMany m_there x3 m_kinds m_targets m_predicates m_numbers m_putsl87 m_codesl87 m_weightsl87 m_sets m_picks m_classesl87 m_steps m_told 0 x29 x31 x32 x33 x34 ec35) (cwV 2 hts (gdV wdt4_97 wdt4_99 wds2_5 wdt1_10 gkK5_offer) rfl rfl rfl (by decide +kernel) ⟨Nat.le_of_ble_eq_true rfl, Nat.le_of_ble_eq_true rfl⟩) ⟨Pr_blind, va_recv hK hPc (ci := 5) (q0 := 0) rfl rfl, fun U hU hW => ⟨rfl, Pr_at hK hN hPc hDc hU hW⟩⟩ rfl rfl hl.1 rfl (lv_room (Nat.le_of_ble_eq_true rfl)) dK5_suggest_220 ⟨Nat.le_of_ble_eq_true rfl, Nat.le_of_ble_eq_true rfl⟩) hP hD hS hA [0, 1, 2, 3, 4, 5, 6, 7, 8, 9, 10, 11, 12, 13, 14] [] [0, 1, 2, 3, 4, 5, 6, 7, 8, 9, 10, 11, 12, 13, 14] rfl rfl (by decide) (by decide) (by decide) rfl (fun H locs hP hD hS => ?_)
                      refine lv_goto (tgt := 381) hx hb dK5_suggest_223 (by decide) ?_
                      obtain ⟨x36, ex36, hm⟩ := bd1_s hm
                      refine lv_iinc (v := x36) (lv' := [(6, .int x36), (8, .int s0j140), (0, .ref m_a), (1, .int v1), (2, .int v2), (3, .int m_changes), (4, .int x8), (5, .int x9), (7, .int x16)]) hx hb dK5_suggest_381 hl (k := 7) rfl (by rw [← Option.some.inj ex36]; rfl) (by decide) rfl (fun ls hl => ?_)
                      refine lv_goto (tgt := 87) hx hb dK5_suggest_384 (by decide) ?_
                      exact ih87 x36 x31 x32 x33 x34 m_classesl87 _ _ _ hm hP hD hS (lv_sub hl [0, 2, 3, 4, 5, 6, 7] rfl)
                  · replace hm := iff_ hm hc148_1
                    by_cases hc148_2 : x18 = 2
                    · replace hm := ift hm hc148_2
                      refine topi hc148_2 ?_
                      refine lv_tableIn (tgt := 226) hx hb dK5_suggest_148 (by decide) (by decide) rfl (by decide) ?_
                      refine lv_iload hx hb dK5_suggest_226 (lv_at hl 8 rfl) ?_
                      refine lv_if_eq (tgt := 381) hx hb dK5_suggest_228 (by decide) (fun hc => ?_) (fun hc => ?_)
                      · replace hm := ift hm hc
                        obtain ⟨x37, ex37, hm⟩ := bd1_s hm
                        refine lv_iinc (v := x37) (lv' := [(6, .int x37), (8, .int s0j140), (0, .ref m_a), (1, .int v1), (2, .int v2), (3, .int m_changes), (4, .int x8), (5, .int x9), (7, .int x16)]) hx hb dK5_suggest_381 hl (k := 7) rfl (by rw [← Option.some.inj ex37]; rfl) (by decide) rfl (fun ls hl => ?_)
                        refine lv_goto (tgt := 87) hx hb dK5_suggest_384 (by decide) ?_
                        exact ih87 x37 m_changesl87 m_putsl87 m_codesl87 m_weightsl87 m_classesl87 _ _ _ hm hP hD hS (lv_sub hl [0, 2, 3, 4, 5, 6, 7] rfl)
                      · replace hm := iff_ hm hc
                        refine lv_aload_n hx hb dK5_suggest_231 rfl (lv_at hl 1 rfl) ?_
                        refine lv_iload hx hb dK5_suggest_232 (lv_at hl 7 rfl) ?_
                        refine lv_iload hx hb dK5_suggest_234 (lv_at hl 6 rfl) ?_
                        obtain ⟨x38, x39, ec40, hm⟩ := bd2_s hm
                        have hPc := hP.sub (ws' := (wX m_a m_there_a m_now_a m_kinds_a m_targets_a m_predicates_a m_numbers_a m_puts_a m_codes_a m_weights_a m_sets_a m_picks_a m_classes_a m_steps_a m_told_a cI cZ cB cC m_rules m_changesl87 m_mostTries m_tried m_settled m_found m_isCovered m_covered m_toldMany m_there x3 m_kinds m_targets m_predicates m_numbers m_putsl87 m_codesl87 m_weightsl87 m_sets m_picks m_classesl87 m_steps m_told)) [0, 1, 2, 3, 4, 5, 6, 7, 8, 9, 10, 11, 12, 13, 14] rfl
                        have hDc := hD.sub (ws' := (wX m_a m_there_a m_now_a m_kinds_a m_targets_a m_predicates_a m_numbers_a m_puts_a m_codes_a m_weights_a m_sets_a m_picks_a m_classes_a m_steps_a m_told_a cI cZ cB cC m_rules m_changesl87 m_mostTries m_tried m_settled m_found m_isCovered m_covered m_toldMany m_there x3 m_kinds m_targets m_predicates m_numbers m_putsl87 m_codesl87 m_weightsl87 m_sets m_picks m_classesl87 m_steps m_told)) [0, 1, 2, 3, 4, 5, 6, 7, 8, 9, 10, 11, 12, 13, 14] (by decide) rfl
                        refine k_calli (wr := []) (w1 := (wX m_a m_there_a m_now_a m_kinds_a m_targets_a m_predicates_a m_numbers_a m_puts_a m_codes_a m_weights_a m_sets_a m_picks_a m_classes_a m_steps_a m_told_a cI cZ cB cC m_rules m_changesl87 m_mostTries m_tried m_settled m_found m_isCovered m_covered m_toldMany m_there x3 m_kinds m_targets m_predicates m_numbers m_putsl87 m_codesl87 m_weightsl87 m_sets m_picks x39 m_steps m_told)) (ws' := (wX m_a m_there_a m_now_a m_kinds_a m_targets_a m_predicates_a m_numbers_a m_puts_a m_codes_a m_weights_a m_sets_a m_picks_a m_classes_a m_steps_a m_told_a cI cZ cB cC m_rules m_changesl87 m_mostTries m_tried m_settled m_found m_isCovered m_covered m_toldMany m_there x3 m_kinds m_targets m_predicates m_numbers m_putsl87 m_codesl87 m_weightsl87 m_sets m_picks x39 m_steps m_told)) (va_runV (As := [.int i6l87, .int x9]) (rest := []) ⟨hx, hb, hml, hown, hts⟩ (kK5_isOfNow l D cI cZ cB cC H.size m_a m_there_a m_now_a m_kinds_a m_targets_a m_predicates_a m_numbers_a m_puts_a m_codes_a m_weights_a m_sets_a m_picks_a m_classes_a m_steps_a m_told_a m_rules m_changesl87 m_mostTries m_tried m_settled m_found m_isCovered m_covered m_toldMany m_there x3 m_kinds m_targets m_predicates m_numbers m_putsl87 m_codesl87 m_weightsl87 m_sets m_picks m_classesl87 m_steps m_told i6l87 x9 x38 x39 ec40) (cwV 2 hts (gdV wdt4_53 wdt4_55 wds1_15 wdt1_10 gkK5_isOfNow) rfl rfl rfl (by decide +kernel) ⟨Nat.le_of_ble_eq_true rfl, Nat.le_of_ble_eq_true rfl⟩) ⟨Pr_blind, va_recv hK hPc (ci := 5) (q0 := 0) rfl rfl, fun U hU hW => ⟨rfl, Pr_at hK hN hPc hDc hU hW⟩⟩ rfl rfl hl.1 rfl (lv_room (Nat.le_of_ble_eq_true rfl)) dK5_suggest_236 ⟨Nat.le_of_ble_eq_true rfl, Nat.le_of_ble_eq_true rfl⟩) hP hD hS hA [0, 1, 2, 3, 4, 5, 6, 7, 8, 9, 10, 11, 12, 13, 14] [] [0, 1, 2, 3, 4, 5, 6, 7, 8, 9, 10, 11, 12, 13, 14] rfl rfl (by decide) (by decide) (by decide) rfl (fun H locs hP hD hS => ?_)
                        refine lv_if_ne (tgt := 381) hx hb dK5_suggest_239 (by decide) (fun hc => ?_) (fun hc => ?_)
                        · replace hm := iff_ hm hc
                          obtain ⟨x41, ex41, hm⟩ := bd1_s hm
                          refine lv_iinc (v := x41) (lv' := [(6, .int x41), (8, .int s0j140), (0, .ref m_a), (1, .int v1), (2, .int v2), (3, .int m_changes), (4, .int x8), (5, .int x9), (7, .int x16)]) hx hb dK5_suggest_381 hl (k := 7) rfl (by rw [← Option.some.inj ex41]; rfl) (by decide) rfl (fun ls hl => ?_)
                          refine lv_goto (tgt := 87) hx hb dK5_suggest_384 (by decide) ?_
                          exact ih87 x41 m_changesl87 m_putsl87 m_codesl87 m_weightsl87 x39 _ _ _ hm hP hD hS (lv_sub hl [0, 2, 3, 4, 5, 6, 7] rfl)
                        · replace hm := ift hm hc
                          refine lv_aload_n hx hb dK5_suggest_242 rfl (lv_at hl 1 rfl) ?_
                          refine lv_iconst (v := 0) hx hb dK5_suggest_243 (by decide) ?_
                          refine lv_iload_n hx hb dK5_suggest_244 rfl (lv_at hl 3 rfl) ?_
                          refine lv_iload hx hb dK5_suggest_245 (lv_at hl 5 rfl) ?_
                          refine lv_iload hx hb dK5_suggest_247 (lv_at hl 7 rfl) ?_
                          obtain ⟨x42, ec43, hm⟩ := bd1_s hm
                          have hPc : va_P D vwCl [] H := va_P0
                          have hDc : va_D A [] := va_D0
                          refine k_calli0 (va_runS (As := [.int v2, .int x8, .int i6l87]) (rest := [.int 0, .ref m_a]) ⟨hx, hb, hml, hown, hts⟩ (kK5_codeOf l D cI cZ cB cC H.size v2 x8 i6l87 x42 ec43) (va_cwS 3 hts (gdS wdt4_26 wdt4_27 wdt1_10 gkK5_codeOf) rfl rfl rfl (by decide +kernel) ⟨Nat.le_of_ble_eq_true rfl, Nat.le_of_ble_eq_true rfl⟩) ⟨Pr_blind, fun U hU hW => ⟨rfl, Pr_at hK hN hPc hDc hU hW⟩⟩ rfl rfl hl.1 rfl (lv_room (Nat.le_of_ble_eq_true rfl)) dK5_suggest_249 ⟨Nat.le_of_ble_eq_true rfl, Nat.le_of_ble_eq_true rfl⟩) hP hD hS hA (fun H locs hP hD hS => ?_)
                          obtain ⟨x44, x45, x46, x47, ec48, hm⟩ := bd4_s hm
                          have hPc := hP.sub (ws' := (wX m_a m_there_a m_now_a m_kinds_a m_targets_a m_predicates_a m_numbers_a m_puts_a m_codes_a m_weights_a m_sets_a m_picks_a m_classes_a m_steps_a m_told_a cI cZ cB cC m_rules m_changesl87 m_mostTries m_tried m_settled m_found m_isCovered m_covered m_toldMany m_there x3 m_kinds m_targets m_predicates m_numbers m_putsl87 m_codesl87 m_weightsl87 m_sets m_picks x39 m_steps m_told)) [0, 1, 2, 3, 4, 5, 6, 7, 8, 9, 10, 11, 12, 13, 14] rfl
                          have hDc := hD.sub (ws' := (wX m_a m_there_a m_now_a m_kinds_a m_targets_a m_predicates_a m_numbers_a m_puts_a m_codes_a m_weights_a m_sets_a m_picks_a m_classes_a m_steps_a m_told_a cI cZ cB cC m_rules m_changesl87 m_mostTries m_tried m_settled m_found m_isCovered m_covered m_toldMany m_there x3 m_kinds m_targets m_predicates m_numbers m_putsl87 m_codesl87 m_weightsl87 m_sets m_picks x39 m_steps m_told)) [0, 1, 2, 3, 4, 5, 6, 7, 8, 9, 10, 11, 12, 13, 14] (by decide) rfl
                          refine k_callv (wr := []) (w1 := (wX m_a m_there_a m_now_a m_kinds_a m_targets_a m_predicates_a m_numbers_a m_puts_a m_codes_a m_weights_a m_sets_a m_picks_a m_classes_a m_steps_a m_told_a cI cZ cB cC m_rules x44 m_mostTries m_tried m_settled m_found m_isCovered m_covered m_toldMany m_there x3 m_kinds m_targets m_predicates m_numbers x45 x46 x47 m_sets m_picks x39 m_steps m_told)) (ws' := (wX m_a m_there_a m_now_a m_kinds_a m_targets_a m_predicates_a m_numbers_a m_puts_a m_codes_a m_weights_a m_sets_a m_picks_a m_classes_a m_steps_a m_told_a cI cZ cB cC m_rules x44 m_mostTries m_tried m_settled m_found m_isCovered m_covered m_toldMany m_there x3 m_kinds m_targets m_predicates m_numbers x45 x46 x47 m_sets m_picks x39 m_steps m_told)) (va_runV (As := [.int 0, .int x42]) (rest := []) ⟨hx, hb, hml, hown, hts⟩ (kK5_offer l D cI cZ cB cC H.size m_a m_there_a m_now_a m_kinds_a m_targets_a m_predicates_a m_numbers_a m_puts_a m_codes_a m_weights_a m_sets_a m_picks_a m_classes_a m_steps_a m_told_a m_rules m_changesl87 m_mostTries m_tried m_settled m_found m_isCovered m_covered m_toldMany m_there x3 m_kinds m_targets m_predicates m_numbers m_putsl87 m_codesl87 m_weightsl87 m_sets m_picks x39 m_steps m_told 0 x42 x44 x45 x46 x47 ec48) (cwV 2 hts (gdV wdt4_97 wdt4_99 wds2_5 wdt1_10 gkK5_offer) rfl rfl rfl (by decide +kernel) ⟨Nat.le_of_ble_eq_true rfl, Nat.le_of_ble_eq_true rfl⟩) ⟨Pr_blind, va_recv hK hPc (ci := 5) (q0 := 0) rfl rfl, fun U hU hW => ⟨rfl, Pr_at hK hN hPc hDc hU hW⟩⟩ rfl rfl hl.1 rfl (lv_room (Nat.le_of_ble_eq_true rfl)) dK5_suggest_252 ⟨Nat.le_of_ble_eq_true rfl, Nat.le_of_ble_eq_true rfl⟩) hP hD hS hA [0, 1, 2, 3, 4, 5, 6, 7, 8, 9, 10, 11, 12, 13, 14] [] [0, 1, 2, 3, 4, 5, 6, 7, 8, 9, 10, 11, 12, 13, 14] rfl rfl (by decide) (by decide) (by decide) rfl (fun H locs hP hD hS => ?_)
                          refine lv_aload_n hx hb dK5_suggest_255 rfl (lv_at hl 1 rfl) ?_
                          refine lv_iconst (v := 1) hx hb dK5_suggest_256 (by decide) ?_
                          refine lv_iload hx hb dK5_suggest_257 (lv_at hl 7 rfl) ?_
                          refine lv_iconst (v := 0) hx hb dK5_suggest_259 (by decide) ?_
                          refine lv_iload hx hb dK5_suggest_260 (lv_at hl 6 rfl) ?_
                          obtain ⟨x49, ec50, hm⟩ := bd1_s hm
                          have hPc : va_P D vwCl [] H := va_P0
                          have hDc : va_D A [] := va_D0
                          refine k_calli0 (va_runS (As := [.int i6l87, .int 0, .int x9]) (rest := [.int 1, .ref m_a]) ⟨hx, hb, hml, hown, hts⟩ (kK5_codeOf l D cI cZ cB cC H.size i6l87 0 x9 x49 ec50) (va_cwS 3 hts (gdS wdt4_26 wdt4_27 wdt1_10 gkK5_codeOf) rfl rfl rfl (by decide +kernel) ⟨Nat.le_of_ble_eq_true rfl, Nat.le_of_ble_eq_true rfl⟩) ⟨Pr_blind, fun U hU hW => ⟨rfl, Pr_at hK hN hPc hDc hU hW⟩⟩ rfl rfl hl.1 rfl (lv_room (Nat.le_of_ble_eq_true rfl)) dK5_suggest_262 ⟨Nat.le_of_ble_eq_true rfl, Nat.le_of_ble_eq_true rfl⟩) hP hD hS hA (fun H locs hP hD hS => ?_)
                          obtain ⟨x51, x52, x53, x54, ec55, hm⟩ := bd4_s hm
                          have hPc := hP.sub (ws' := (wX m_a m_there_a m_now_a m_kinds_a m_targets_a m_predicates_a m_numbers_a m_puts_a m_codes_a m_weights_a m_sets_a m_picks_a m_classes_a m_steps_a m_told_a cI cZ cB cC m_rules x44 m_mostTries m_tried m_settled m_found m_isCovered m_covered m_toldMany m_there x3 m_kinds m_targets m_predicates m_numbers x45 x46 x47 m_sets m_picks x39 m_steps m_told)) [0, 1, 2, 3, 4, 5, 6, 7, 8, 9, 10, 11, 12, 13, 14] rfl
                          have hDc := hD.sub (ws' := (wX m_a m_there_a m_now_a m_kinds_a m_targets_a m_predicates_a m_numbers_a m_puts_a m_codes_a m_weights_a m_sets_a m_picks_a m_classes_a m_steps_a m_told_a cI cZ cB cC m_rules x44 m_mostTries m_tried m_settled m_found m_isCovered m_covered m_toldMany m_there x3 m_kinds m_targets m_predicates m_numbers x45 x46 x47 m_sets m_picks x39 m_steps m_told)) [0, 1, 2, 3, 4, 5, 6, 7, 8, 9, 10, 11, 12, 13, 14] (by decide) rfl
                          refine k_callv (wr := []) (w1 := (wX m_a m_there_a m_now_a m_kinds_a m_targets_a m_predicates_a m_numbers_a m_puts_a m_codes_a m_weights_a m_sets_a m_picks_a m_classes_a m_steps_a m_told_a cI cZ cB cC m_rules x51 m_mostTries m_tried m_settled m_found m_isCovered m_covered m_toldMany m_there x3 m_kinds m_targets m_predicates m_numbers x52 x53 x54 m_sets m_picks x39 m_steps m_told)) (ws' := (wX m_a m_there_a m_now_a m_kinds_a m_targets_a m_predicates_a m_numbers_a m_puts_a m_codes_a m_weights_a m_sets_a m_picks_a m_classes_a m_steps_a m_told_a cI cZ cB cC m_rules x51 m_mostTries m_tried m_settled m_found m_isCovered m_covered m_toldMany m_there x3 m_kinds m_targets m_predicates m_numbers x52 x53 x54 m_sets m_picks x39 m_steps m_told)) (va_runV (As := [.int 1, .int x49]) (rest := []) ⟨hx, hb, hml, hown, hts⟩ (kK5_offer l D cI cZ cB cC H.size m_a m_there_a m_now_a m_kinds_a m_targets_a m_predicates_a m_numbers_a m_puts_a m_codes_a m_weights_a m_sets_a m_picks_a m_classes_a m_steps_a m_told_a m_rules x44 m_mostTries m_tried m_settled m_found m_isCovered m_covered m_toldMany m_there x3 m_kinds m_targets m_predicates m_numbers x45 x46 x47 m_sets m_picks x39 m_steps m_told 1 x49 x51 x52 x53 x54 ec55) (cwV 2 hts (gdV wdt4_97 wdt4_99 wds2_5 wdt1_10 gkK5_offer) rfl rfl rfl (by decide +kernel) ⟨Nat.le_of_ble_eq_true rfl, Nat.le_of_ble_eq_true rfl⟩) ⟨Pr_blind, va_recv hK hPc (ci := 5) (q0 := 0) rfl rfl, fun U hU hW => ⟨rfl, Pr_at hK hN hPc hDc hU hW⟩⟩ rfl rfl hl.1 rfl (lv_room (Nat.le_of_ble_eq_true rfl)) dK5_suggest_265 ⟨Nat.le_of_ble_eq_true rfl, Nat.le_of_ble_eq_true rfl⟩) hP hD hS hA [0, 1, 2, 3, 4, 5, 6, 7, 8, 9, 10, 11, 12, 13, 14] [] [0, 1, 2, 3, 4, 5, 6, 7, 8, 9, 10, 11, 12, 13, 14] rfl rfl (by decide) (by decide) (by decide) rfl (fun H locs hP hD hS => ?_)
                          refine lv_goto (tgt := 381) hx hb dK5_suggest_268 (by decide) ?_
                          obtain ⟨x56, ex56, hm⟩ := bd1_s hm
                          refine lv_iinc (v := x56) (lv' := [(6, .int x56), (8, .int s0j140), (0, .ref m_a), (1, .int v1), (2, .int v2), (3, .int m_changes), (4, .int x8), (5, .int x9), (7, .int x16)]) hx hb dK5_suggest_381 hl (k := 7) rfl (by rw [← Option.some.inj ex56]; rfl) (by decide) rfl (fun ls hl => ?_)
                          refine lv_goto (tgt := 87) hx hb dK5_suggest_384 (by decide) ?_
                          exact ih87 x56 x51 x52 x53 x54 x39 _ _ _ hm hP hD hS (lv_sub hl [0, 2, 3, 4, 5, 6, 7] rfl)
                    · replace hm := iff_ hm hc148_2
                      by_cases hc148_3 : x18 = 3
                      · replace hm := ift hm hc148_3
                        refine topi hc148_3 ?_
                        refine lv_tableIn (tgt := 271) hx hb dK5_suggest_148 (by decide) (by decide) rfl (by decide) ?_
                        refine lv_iload hx hb dK5_suggest_271 (lv_at hl 8 rfl) ?_
                        refine lv_if_eq (tgt := 381) hx hb dK5_suggest_273 (by decide) (fun hc => ?_) (fun hc => ?_)
                        · replace hm := ift hm hc
                          obtain ⟨x57, ex57, hm⟩ := bd1_s hm
                          refine lv_iinc (v := x57) (lv' := [(6, .int x57), (8, .int s0j140), (0, .ref m_a), (1, .int v1), (2, .int v2), (3, .int m_changes), (4, .int x8), (5, .int x9), (7, .int x16)]) hx hb dK5_suggest_381 hl (k := 7) rfl (by rw [← Option.some.inj ex57]; rfl) (by decide) rfl (fun ls hl => ?_)
                          refine lv_goto (tgt := 87) hx hb dK5_suggest_384 (by decide) ?_
                          exact ih87 x57 m_changesl87 m_putsl87 m_codesl87 m_weightsl87 m_classesl87 _ _ _ hm hP hD hS (lv_sub hl [0, 2, 3, 4, 5, 6, 7] rfl)
                        · replace hm := iff_ hm hc
                          refine lv_iload hx hb dK5_suggest_276 (lv_at hl 7 rfl) ?_
                          refine lv_iload hx hb dK5_suggest_278 (lv_at hl 6 rfl) ?_
                          refine lv_icmp_ne (tgt := 381) hx hb dK5_suggest_280 (by decide) (fun hc => ?_) (fun hc => ?_)
                          · replace hm := iff_ hm hc
                            obtain ⟨x58, ex58, hm⟩ := bd1_s hm
                            refine lv_iinc (v := x58) (lv' := [(6, .int x58), (8, .int s0j140), (0, .ref m_a), (1, .int v1), (2, .int v2), (3, .int m_changes), (4, .int x8), (5, .int x9), (7, .int x16)]) hx hb dK5_suggest_381 hl (k := 7) rfl (by rw [← Option.some.inj ex58]; rfl) (by decide) rfl (fun ls hl => ?_)
                            refine lv_goto (tgt := 87) hx hb dK5_suggest_384 (by decide) ?_
                            exact ih87 x58 m_changesl87 m_putsl87 m_codesl87 m_weightsl87 m_classesl87 _ _ _ hm hP hD hS (lv_sub hl [0, 2, 3, 4, 5, 6, 7] rfl)
                          · replace hm := ift hm hc
                            refine lv_aload_n hx hb dK5_suggest_283 rfl (lv_at hl 1 rfl) ?_
                            refine lv_iconst (v := 0) hx hb dK5_suggest_284 (by decide) ?_
                            refine lv_iload_n hx hb dK5_suggest_285 rfl (lv_at hl 3 rfl) ?_
                            refine lv_iload hx hb dK5_suggest_286 (lv_at hl 5 rfl) ?_
                            refine lv_iload hx hb dK5_suggest_288 (lv_at hl 7 rfl) ?_
                            obtain ⟨x59, ec60, hm⟩ := bd1_s hm
                            have hPc : va_P D vwCl [] H := va_P0
                            have hDc : va_D A [] := va_D0
                            refine k_calli0 (va_runS (As := [.int v2, .int x8, .int i6l87]) (rest := [.int 0, .ref m_a]) ⟨hx, hb, hml, hown, hts⟩ (kK5_codeOf l D cI cZ cB cC H.size v2 x8 i6l87 x59 ec60) (va_cwS 3 hts (gdS wdt4_26 wdt4_27 wdt1_10 gkK5_codeOf) rfl rfl rfl (by decide +kernel) ⟨Nat.le_of_ble_eq_true rfl, Nat.le_of_ble_eq_true rfl⟩) ⟨Pr_blind, fun U hU hW => ⟨rfl, Pr_at hK hN hPc hDc hU hW⟩⟩ rfl rfl hl.1 rfl (lv_room (Nat.le_of_ble_eq_true rfl)) dK5_suggest_290 ⟨Nat.le_of_ble_eq_true rfl, Nat.le_of_ble_eq_true rfl⟩) hP hD hS hA (fun H locs hP hD hS => ?_)
                            obtain ⟨x61, x62, x63, x64, ec65, hm⟩ := bd4_s hm
                            have hPc := hP.sub (ws' := (wX m_a m_there_a m_now_a m_kinds_a m_targets_a m_predicates_a m_numbers_a m_puts_a m_codes_a m_weights_a m_sets_a m_picks_a m_classes_a m_steps_a m_told_a cI cZ cB cC m_rules m_changesl87 m_mostTries m_tried m_settled m_found m_isCovered m_covered m_toldMany m_there x3 m_kinds m_targets m_predicates m_numbers m_putsl87 m_codesl87 m_weightsl87 m_sets m_picks m_classesl87 m_steps m_told)) [0, 1, 2, 3, 4, 5, 6, 7, 8, 9, 10, 11, 12, 13, 14] rfl
                            have hDc := hD.sub (ws' := (wX m_a m_there_a m_now_a m_kinds_a m_targets_a m_predicates_a m_numbers_a m_puts_a m_codes_a m_weights_a m_sets_a m_picks_a m_classes_a m_steps_a m_told_a cI cZ cB cC m_rules m_changesl87 m_mostTries m_tried m_settled m_found m_isCovered m_covered m_toldMany m_there x3 m_kinds m_targets m_predicates m_numbers m_putsl87 m_codesl87 m_weightsl87 m_sets m_picks m_classesl87 m_steps m_told)) [0, 1, 2, 3, 4, 5, 6, 7, 8, 9, 10, 11, 12, 13, 14] (by decide) rfl
                            refine k_callv (wr := []) (w1 := (wX m_a m_there_a m_now_a m_kinds_a m_targets_a m_predicates_a m_numbers_a m_puts_a m_codes_a m_weights_a m_sets_a m_picks_a m_classes_a m_steps_a m_told_a cI cZ cB cC m_rules x61 m_mostTries m_tried m_settled m_found m_isCovered m_covered m_toldMany m_there x3 m_kinds m_targets m_predicates m_numbers x62 x63 x64 m_sets m_picks m_classesl87 m_steps m_told)) (ws' := (wX m_a m_there_a m_now_a m_kinds_a m_targets_a m_predicates_a m_numbers_a m_puts_a m_codes_a m_weights_a m_sets_a m_picks_a m_classes_a m_steps_a m_told_a cI cZ cB cC m_rules x61 m_mostTries m_tried m_settled m_found m_isCovered m_covered m_toldMany m_there x3 m_kinds m_targets m_predicates m_numbers x62 x63 x64 m_sets m_picks m_classesl87 m_steps m_told)) (va_runV (As := [.int 0, .int x59]) (rest := []) ⟨hx, hb, hml, hown, hts⟩ (kK5_offer l D cI cZ cB cC H.size m_a m_there_a m_now_a m_kinds_a m_targets_a m_predicates_a m_numbers_a m_puts_a m_codes_a m_weights_a m_sets_a m_picks_a m_classes_a m_steps_a m_told_a m_rules m_changesl87 m_mostTries m_tried m_settled m_found m_isCovered m_covered m_toldMany m_there x3 m_kinds m_targets m_predicates m_numbers m_putsl87 m_codesl87 m_weightsl87 m_sets m_picks m_classesl87 m_steps m_told 0 x59 x61 x62 x63 x64 ec65) (cwV 2 hts (gdV wdt4_97 wdt4_99 wds2_5 wdt1_10 gkK5_offer) rfl rfl rfl (by decide +kernel) ⟨Nat.le_of_ble_eq_true rfl, Nat.le_of_ble_eq_true rfl⟩) ⟨Pr_blind, va_recv hK hPc (ci := 5) (q0 := 0) rfl rfl, fun U hU hW => ⟨rfl, Pr_at hK hN hPc hDc hU hW⟩⟩ rfl rfl hl.1 rfl (lv_room (Nat.le_of_ble_eq_true rfl)) dK5_suggest_293 ⟨Nat.le_of_ble_eq_true rfl, Nat.le_of_ble_eq_true rfl⟩) hP hD hS hA [0, 1, 2, 3, 4, 5, 6, 7, 8, 9, 10, 11, 12, 13, 14] [] [0, 1, 2, 3, 4, 5, 6, 7, 8, 9, 10, 11, 12, 13, 14] rfl rfl (by decide) (by decide) (by decide) rfl (fun H locs hP hD hS => ?_)
                            refine lv_goto (tgt := 381) hx hb dK5_suggest_296 (by decide) ?_
                            obtain ⟨x66, ex66, hm⟩ := bd1_s hm
                            refine lv_iinc (v := x66) (lv' := [(6, .int x66), (8, .int s0j140), (0, .ref m_a), (1, .int v1), (2, .int v2), (3, .int m_changes), (4, .int x8), (5, .int x9), (7, .int x16)]) hx hb dK5_suggest_381 hl (k := 7) rfl (by rw [← Option.some.inj ex66]; rfl) (by decide) rfl (fun ls hl => ?_)
                            refine lv_goto (tgt := 87) hx hb dK5_suggest_384 (by decide) ?_
                            exact ih87 x66 x61 x62 x63 x64 m_classesl87 _ _ _ hm hP hD hS (lv_sub hl [0, 2, 3, 4, 5, 6, 7] rfl)
                      · replace hm := iff_ hm hc148_3
                        by_cases hc148_4 : x18 = 4
                        · replace hm := ift hm hc148_4
                          refine topi hc148_4 ?_
                          refine lv_tableIn (tgt := 299) hx hb dK5_suggest_148 (by decide) (by decide) rfl (by decide) ?_
                          refine lv_iload hx hb dK5_suggest_299 (lv_at hl 8 rfl) ?_
                          refine lv_iload hx hb dK5_suggest_301 (lv_at hl 0 rfl) ?_
                          refine lv_icmp_eq (tgt := 381) hx hb dK5_suggest_303 (by decide) (fun hc => ?_) (fun hc => ?_)
                          · replace hm := ift hm hc
                            obtain ⟨x67, ex67, hm⟩ := bd1_s hm
                            refine lv_iinc (v := x67) (lv' := [(6, .int x67), (8, .int s0j140), (0, .ref m_a), (1, .int v1), (2, .int v2), (3, .int m_changes), (4, .int x8), (5, .int x9), (7, .int x16)]) hx hb dK5_suggest_381 hl (k := 7) rfl (by rw [← Option.some.inj ex67]; rfl) (by decide) rfl (fun ls hl => ?_)
                            refine lv_goto (tgt := 87) hx hb dK5_suggest_384 (by decide) ?_
                            exact ih87 x67 m_changesl87 m_putsl87 m_codesl87 m_weightsl87 m_classesl87 _ _ _ hm hP hD hS (lv_sub hl [0, 2, 3, 4, 5, 6, 7] rfl)
                          · replace hm := iff_ hm hc
                            refine lv_aload_n hx hb dK5_suggest_306 rfl (lv_at hl 1 rfl) ?_
                            refine lv_iload hx hb dK5_suggest_307 (lv_at hl 8 rfl) ?_
                            have jn317 : ∀ (s1j317 : Int32) (H : Heap) (locs : List Loc) (ls : Array Slot), mK5_suggest_J317 v2 x8 x9 i6l87 m_changesl87 m_putsl87 m_codesl87 m_weightsl87 m_classesl87 (mK5_suggest_L87 m_kinds v1 v2 x3 x8 x9 (mK5_suggest_A87 m_changes x3) n87) x16 s1j317 = some (r0, m_changes_r, m_now_r, m_puts_r, m_codes_r, m_weights_r, m_classes_r) → va_P D vwCl (wX m_a m_there_a m_now_a m_kinds_a m_targets_a m_predicates_a m_numbers_a m_puts_a m_codes_a m_weights_a m_sets_a m_picks_a m_classes_a m_steps_a m_told_a cI cZ cB cC m_rules m_changesl87 m_mostTries m_tried m_settled m_found m_isCovered m_covered m_toldMany m_there x3 m_kinds m_targets m_predicates m_numbers m_putsl87 m_codesl87 m_weightsl87 m_sets m_picks m_classesl87 m_steps m_told) H → va_D A (wX m_a m_there_a m_now_a m_kinds_a m_targets_a m_predicates_a m_numbers_a m_puts_a m_codes_a m_weights_a m_sets_a m_picks_a m_classes_a m_steps_a m_told_a cI cZ cB cC m_rules m_changesl87 m_mostTries m_tried m_settled m_found m_isCovered m_covered m_toldMany m_there x3 m_kinds m_targets m_predicates m_numbers m_putsl87 m_codesl87 m_weightsl87 m_sets m_picks m_classesl87 m_steps m_told) → va_S A s.heap H locs → lv_has ls 9 [(0, .ref m_a), (1, .int v1), (2, .int v2), (3, .int m_changes), (4, .int x8), (5, .int x9), (6, .int i6l87), (7, .int x16)] → W p l e (headSpec wsK5_suggest rmK5_suggest).room s m ([.ref m_a, .int v1, .int v2] : List Value).toArray below meth c H locs 0 0 (MQ below (QI D A r0 (wX m_a m_there_a m_now_a m_kinds_a m_targets_a m_predicates_a m_numbers_a m_puts_a m_codes_a m_weights_a m_sets_a m_picks_a m_classes_a m_steps_a m_told_a cI cZ cB cC m_rules m_changes_r m_mostTries m_tried m_settled m_found m_isCovered m_covered m_toldMany m_there m_now_r m_kinds m_targets m_predicates m_numbers m_puts_r m_codes_r m_weights_r m_sets m_picks m_classes_r m_steps m_told)) ([.ref m_a, .int v1, .int v2] : List Value).toArray s 0 0 A) (F0 m 317 ls [.int s1j317, .ref m_a]) := by
                              intro s1j317 H locs ls hm hP hD hS hl
                              unfold mK5_suggest_J317 at hm
                              refine lv_iload_n hx hb dK5_suggest_317 rfl (lv_at hl 2 rfl) ?_
                              refine lv_iload hx hb dK5_suggest_318 (lv_at hl 4 rfl) ?_
                              refine lv_iload hx hb dK5_suggest_320 (lv_at hl 6 rfl) ?_
                              obtain ⟨x68, ec69, hm⟩ := bd1_s hm
                              have hPc : va_P D vwCl [] H := va_P0
                              have hDc : va_D A [] := va_D0
                              refine k_calli0 (va_runS (As := [.int v2, .int x8, .int i6l87]) (rest := [.int s1j317, .ref m_a]) ⟨hx, hb, hml, hown, hts⟩ (kK5_codeOf l D cI cZ cB cC H.size v2 x8 i6l87 x68 ec69) (va_cwS 3 hts (gdS wdt4_26 wdt4_27 wdt1_10 gkK5_codeOf) rfl rfl rfl (by decide +kernel) ⟨Nat.le_of_ble_eq_true rfl, Nat.le_of_ble_eq_true rfl⟩) ⟨Pr_blind, fun U hU hW => ⟨rfl, Pr_at hK hN hPc hDc hU hW⟩⟩ rfl rfl hl.1 rfl (lv_room (Nat.le_of_ble_eq_true rfl)) dK5_suggest_322 ⟨Nat.le_of_ble_eq_true rfl, Nat.le_of_ble_eq_true rfl⟩) hP hD hS hA (fun H locs hP hD hS => ?_)
                              obtain ⟨x70, x71, x72, x73, ec74, hm⟩ := bd4_s hm
                              have hPc := hP.sub (ws' := (wX m_a m_there_a m_now_a m_kinds_a m_targets_a m_predicates_a m_numbers_a m_puts_a m_codes_a m_weights_a m_sets_a m_picks_a m_classes_a m_steps_a m_told_a cI cZ cB cC m_rules m_changesl87 m_mostTries m_tried m_settled m_found m_isCovered m_covered m_toldMany m_there x3 m_kinds m_targets m_predicates m_numbers m_putsl87 m_codesl87 m_weightsl87 m_sets m_picks m_classesl87 m_steps m_told)) [0, 1, 2, 3, 4, 5, 6, 7, 8, 9, 10, 11, 12, 13, 14] rfl
                              have hDc := hD.sub (ws' := (wX m_a m_there_a m_now_a m_kinds_a m_targets_a m_predicates_a m_numbers_a m_puts_a m_codes_a m_weights_a m_sets_a m_picks_a m_classes_a m_steps_a m_told_a cI cZ cB cC m_rules m_changesl87 m_mostTries m_tried m_settled m_found m_isCovered m_covered m_toldMany m_there x3 m_kinds m_targets m_predicates m_numbers m_putsl87 m_codesl87 m_weightsl87 m_sets m_picks m_classesl87 m_steps m_told)) [0, 1, 2, 3, 4, 5, 6, 7, 8, 9, 10, 11, 12, 13, 14] (by decide) rfl
                              refine k_callv (wr := []) (w1 := (wX m_a m_there_a m_now_a m_kinds_a m_targets_a m_predicates_a m_numbers_a m_puts_a m_codes_a m_weights_a m_sets_a m_picks_a m_classes_a m_steps_a m_told_a cI cZ cB cC m_rules x70 m_mostTries m_tried m_settled m_found m_isCovered m_covered m_toldMany m_there x3 m_kinds m_targets m_predicates m_numbers x71 x72 x73 m_sets m_picks m_classesl87 m_steps m_told)) (ws' := (wX m_a m_there_a m_now_a m_kinds_a m_targets_a m_predicates_a m_numbers_a m_puts_a m_codes_a m_weights_a m_sets_a m_picks_a m_classes_a m_steps_a m_told_a cI cZ cB cC m_rules x70 m_mostTries m_tried m_settled m_found m_isCovered m_covered m_toldMany m_there x3 m_kinds m_targets m_predicates m_numbers x71 x72 x73 m_sets m_picks m_classesl87 m_steps m_told)) (va_runV (As := [.int s1j317, .int x68]) (rest := []) ⟨hx, hb, hml, hown, hts⟩ (kK5_offer l D cI cZ cB cC H.size m_a m_there_a m_now_a m_kinds_a m_targets_a m_predicates_a m_numbers_a m_puts_a m_codes_a m_weights_a m_sets_a m_picks_a m_classes_a m_steps_a m_told_a m_rules m_changesl87 m_mostTries m_tried m_settled m_found m_isCovered m_covered m_toldMany m_there x3 m_kinds m_targets m_predicates m_numbers m_putsl87 m_codesl87 m_weightsl87 m_sets m_picks m_classesl87 m_steps m_told s1j317 x68 x70 x71 x72 x73 ec74) (cwV 2 hts (gdV wdt4_97 wdt4_99 wds2_5 wdt1_10 gkK5_offer) rfl rfl rfl (by decide +kernel) ⟨Nat.le_of_ble_eq_true rfl, Nat.le_of_ble_eq_true rfl⟩) ⟨Pr_blind, va_recv hK hPc (ci := 5) (q0 := 0) rfl rfl, fun U hU hW => ⟨rfl, Pr_at hK hN hPc hDc hU hW⟩⟩ rfl rfl hl.1 rfl (lv_room (Nat.le_of_ble_eq_true rfl)) dK5_suggest_325 ⟨Nat.le_of_ble_eq_true rfl, Nat.le_of_ble_eq_true rfl⟩) hP hD hS hA [0, 1, 2, 3, 4, 5, 6, 7, 8, 9, 10, 11, 12, 13, 14] [] [0, 1, 2, 3, 4, 5, 6, 7, 8, 9, 10, 11, 12, 13, 14] rfl rfl (by decide) (by decide) (by decide) rfl (fun H locs hP hD hS => ?_)
                              refine lv_aload_n hx hb dK5_suggest_328 rfl (lv_at hl 0 rfl) ?_
                              refine lv_iload hx hb dK5_suggest_329 (lv_at hl 7 rfl) ?_
                              refine lv_iload_n hx hb dK5_suggest_331 rfl (lv_at hl 2 rfl) ?_
                              refine lv_iload hx hb dK5_suggest_332 (lv_at hl 5 rfl) ?_
                              refine lv_iload hx hb dK5_suggest_334 (lv_at hl 6 rfl) ?_
                              obtain ⟨x75, ec76, hm⟩ := bd1_s hm
                              have hPc : va_P D vwCl [] H := va_P0
                              have hDc : va_D A [] := va_D0
                              refine k_calli0 (va_runS (As := [.int v2, .int x9, .int i6l87]) (rest := [.int x16, .ref m_a]) ⟨hx, hb, hml, hown, hts⟩ (kK5_codeOf l D cI cZ cB cC H.size v2 x9 i6l87 x75 ec76) (va_cwS 3 hts (gdS wdt4_26 wdt4_27 wdt1_10 gkK5_codeOf) rfl rfl rfl (by decide +kernel) ⟨Nat.le_of_ble_eq_true rfl, Nat.le_of_ble_eq_true rfl⟩) ⟨Pr_blind, fun U hU hW => ⟨rfl, Pr_at hK hN hPc hDc hU hW⟩⟩ rfl rfl hl.1 rfl (lv_room (Nat.le_of_ble_eq_true rfl)) dK5_suggest_336 ⟨Nat.le_of_ble_eq_true rfl, Nat.le_of_ble_eq_true rfl⟩) hP hD hS hA (fun H locs hP hD hS => ?_)
                              obtain ⟨x77, x78, x79, x80, ec81, hm⟩ := bd4_s hm
                              have hPc := hP.sub (ws' := (wX m_a m_there_a m_now_a m_kinds_a m_targets_a m_predicates_a m_numbers_a m_puts_a m_codes_a m_weights_a m_sets_a m_picks_a m_classes_a m_steps_a m_told_a cI cZ cB cC m_rules x70 m_mostTries m_tried m_settled m_found m_isCovered m_covered m_toldMany m_there x3 m_kinds m_targets m_predicates m_numbers x71 x72 x73 m_sets m_picks m_classesl87 m_steps m_told)) [0, 1, 2, 3, 4, 5, 6, 7, 8, 9, 10, 11, 12, 13, 14] rfl
                              have hDc := hD.sub (ws' := (wX m_a m_there_a m_now_a m_kinds_a m_targets_a m_predicates_a m_numbers_a m_puts_a m_codes_a m_weights_a m_sets_a m_picks_a m_classes_a m_steps_a m_told_a cI cZ cB cC m_rules x70 m_mostTries m_tried m_settled m_found m_isCovered m_covered m_toldMany m_there x3 m_kinds m_targets m_predicates m_numbers x71 x72 x73 m_sets m_picks m_classesl87 m_steps m_told)) [0, 1, 2, 3, 4, 5, 6, 7, 8, 9, 10, 11, 12, 13, 14] (by decide) rfl
                              refine k_callv (wr := []) (w1 := (wX m_a m_there_a m_now_a m_kinds_a m_targets_a m_predicates_a m_numbers_a m_puts_a m_codes_a m_weights_a m_sets_a m_picks_a m_classes_a m_steps_a m_told_a cI cZ cB cC m_rules x77 m_mostTries m_tried m_settled m_found m_isCovered m_covered m_toldMany m_there x3 m_kinds m_targets m_predicates m_numbers x78 x79 x80 m_sets m_picks m_classesl87 m_steps m_told)) (ws' := (wX m_a m_there_a m_now_a m_kinds_a m_targets_a m_predicates_a m_numbers_a m_puts_a m_codes_a m_weights_a m_sets_a m_picks_a m_classes_a m_steps_a m_told_a cI cZ cB cC m_rules x77 m_mostTries m_tried m_settled m_found m_isCovered m_covered m_toldMany m_there x3 m_kinds m_targets m_predicates m_numbers x78 x79 x80 m_sets m_picks m_classesl87 m_steps m_told)) (va_runV (As := [.int x16, .int x75]) (rest := []) ⟨hx, hb, hml, hown, hts⟩ (kK5_offer l D cI cZ cB cC H.size m_a m_there_a m_now_a m_kinds_a m_targets_a m_predicates_a m_numbers_a m_puts_a m_codes_a m_weights_a m_sets_a m_picks_a m_classes_a m_steps_a m_told_a m_rules x70 m_mostTries m_tried m_settled m_found m_isCovered m_covered m_toldMany m_there x3 m_kinds m_targets m_predicates m_numbers x71 x72 x73 m_sets m_picks m_classesl87 m_steps m_told x16 x75 x77 x78 x79 x80 ec81) (cwV 2 hts (gdV wdt4_97 wdt4_99 wds2_5 wdt1_10 gkK5_offer) rfl rfl rfl (by decide +kernel) ⟨Nat.le_of_ble_eq_true rfl, Nat.le_of_ble_eq_true rfl⟩) ⟨Pr_blind, va_recv hK hPc (ci := 5) (q0 := 0) rfl rfl, fun U hU hW => ⟨rfl, Pr_at hK hN hPc hDc hU hW⟩⟩ rfl rfl hl.1 rfl (lv_room (Nat.le_of_ble_eq_true rfl)) dK5_suggest_339 ⟨Nat.le_of_ble_eq_true rfl, Nat.le_of_ble_eq_true rfl⟩) hP hD hS hA [0, 1, 2, 3, 4, 5, 6, 7, 8, 9, 10, 11, 12, 13, 14] [] [0, 1, 2, 3, 4, 5, 6, 7, 8, 9, 10, 11, 12, 13, 14] rfl rfl (by decide) (by decide) (by decide) rfl (fun H locs hP hD hS => ?_)
                              refine lv_goto (tgt := 381) hx hb dK5_suggest_342 (by decide) ?_
                              obtain ⟨x82, ex82, hm⟩ := bd1_s hm
                              refine lv_iinc (v := x82) (lv' := [(6, .int x82), (0, .ref m_a), (1, .int v1), (2, .int v2), (3, .int m_changes), (4, .int x8), (5, .int x9), (7, .int x16)]) hx hb dK5_suggest_381 hl (k := 6) rfl (by rw [← Option.some.inj ex82]; rfl) (by decide) rfl (fun ls hl => ?_)
                              refine lv_goto (tgt := 87) hx hb dK5_suggest_384 (by decide) ?_
                              exact ih87 x82 x77 x78 x79 x80 m_classesl87 _ _ _ hm hP hD hS (lv_sub hl [0, 1, 2, 3, 4, 5, 6] rfl)
                            refine lv_if_ne (tgt := 316) hx hb dK5_suggest_309 (by decide) (fun hc => ?_) (fun hc => ?_)
                            · replace hm := iff_ hm hc
                              refine lv_iconst (v := 0) hx hb dK5_suggest_316 (by decide) ?_
                              exact jn317 0 _ _ _ hm hP hD hS (lv_sub hl [1, 2, 3, 4, 5, 6, 7, 8] rfl)
                            · replace hm := ift hm hc
                              refine lv_iconst (v := 1) hx hb dK5_suggest_312 (by decide) ?_
                              refine lv_goto (tgt := 317) hx hb dK5_suggest_313 (by decide) ?_
                              exact jn317 1 _ _ _ hm hP hD hS (lv_sub hl [1, 2, 3, 4, 5, 6, 7, 8] rfl)
                        · replace hm := iff_ hm hc148_4
                          refine lv_tableOut (tgt := 345) hx hb dK5_suggest_148 (tabout5_0 hc148_0 hc148_1 hc148_2 hc148_3 hc148_4) (by decide) ?_
                          refine lv_iload hx hb dK5_suggest_345 (lv_at hl 8 rfl) ?_
                          refine lv_if_eq (tgt := 381) hx hb dK5_suggest_347 (by decide) (fun hc => ?_) (fun hc => ?_)
                          · replace hm := ift hm hc
                            obtain ⟨x83, ex83, hm⟩ := bd1_s hm
                            refine lv_iinc (v := x83) (lv' := [(6, .int x83), (8, .int s0j140), (0, .ref m_a), (1, .int v1), (2, .int v2), (3, .int m_changes), (4, .int x8), (5, .int x9), (7, .int x16)]) hx hb dK5_suggest_381 hl (k := 7) rfl (by rw [← Option.some.inj ex83]; rfl) (by decide) rfl (fun ls hl => ?_)
                            refine lv_goto (tgt := 87) hx hb dK5_suggest_384 (by decide) ?_
                            exact ih87 x83 m_changesl87 m_putsl87 m_codesl87 m_weightsl87 m_classesl87 _ _ _ hm hP hD hS (lv_sub hl [0, 2, 3, 4, 5, 6, 7] rfl)
                          · replace hm := iff_ hm hc
                            refine lv_iload hx hb dK5_suggest_350 (lv_at hl 0 rfl) ?_
                            refine lv_if_eq (tgt := 381) hx hb dK5_suggest_352 (by decide) (fun hc => ?_) (fun hc => ?_)
                            · replace hm := ift hm hc
                              obtain ⟨x84, ex84, hm⟩ := bd1_s hm
                              refine lv_iinc (v := x84) (lv' := [(6, .int x84), (8, .int s0j140), (0, .ref m_a), (1, .int v1), (2, .int v2), (3, .int m_changes), (4, .int x8), (5, .int x9), (7, .int x16)]) hx hb dK5_suggest_381 hl (k := 7) rfl (by rw [← Option.some.inj ex84]; rfl) (by decide) rfl (fun ls hl => ?_)
                              refine lv_goto (tgt := 87) hx hb dK5_suggest_384 (by decide) ?_
                              exact ih87 x84 m_changesl87 m_putsl87 m_codesl87 m_weightsl87 m_classesl87 _ _ _ hm hP hD hS (lv_sub hl [0, 2, 3, 4, 5, 6, 7] rfl)
                            · replace hm := iff_ hm hc
                              refine lv_aload_n hx hb dK5_suggest_355 rfl (lv_at hl 1 rfl) ?_
                              refine lv_iconst (v := 0) hx hb dK5_suggest_356 (by decide) ?_
                              refine lv_iload_n hx hb dK5_suggest_357 rfl (lv_at hl 3 rfl) ?_
                              refine lv_iload hx hb dK5_suggest_358 (lv_at hl 5 rfl) ?_
                              refine lv_iload hx hb dK5_suggest_360 (lv_at hl 7 rfl) ?_
                              obtain ⟨x85, ec86, hm⟩ := bd1_s hm
                              have hPc : va_P D vwCl [] H := va_P0
                              have hDc : va_D A [] := va_D0
                              refine k_calli0 (va_runS (As := [.int v2, .int x8, .int i6l87]) (rest := [.int 0, .ref m_a]) ⟨hx, hb, hml, hown, hts⟩ (kK5_codeOf l D cI cZ cB cC H.size v2 x8 i6l87 x85 ec86) (va_cwS 3 hts (gdS wdt4_26 wdt4_27 wdt1_10 gkK5_codeOf) rfl rfl rfl (by decide +kernel) ⟨Nat.le_of_ble_eq_true rfl, Nat.le_of_ble_eq_true rfl⟩) ⟨Pr_blind, fun U hU hW => ⟨rfl, Pr_at hK hN hPc hDc hU hW⟩⟩ rfl rfl hl.1 rfl (lv_room (Nat.le_of_ble_eq_true rfl)) dK5_suggest_362 ⟨Nat.le_of_ble_eq_true rfl, Nat.le_of_ble_eq_true rfl⟩) hP hD hS hA (fun H locs hP hD hS => ?_)
                              obtain ⟨x87, x88, x89, x90, ec91, hm⟩ := bd4_s hm
                              have hPc := hP.sub (ws' := (wX m_a m_there_a m_now_a m_kinds_a m_targets_a m_predicates_a m_numbers_a m_puts_a m_codes_a m_weights_a m_sets_a m_picks_a m_classes_a m_steps_a m_told_a cI cZ cB cC m_rules m_changesl87 m_mostTries m_tried m_settled m_found m_isCovered m_covered m_toldMany m_there x3 m_kinds m_targets m_predicates m_numbers m_putsl87 m_codesl87 m_weightsl87 m_sets m_picks m_classesl87 m_steps m_told)) [0, 1, 2, 3, 4, 5, 6, 7, 8, 9, 10, 11, 12, 13, 14] rfl
                              have hDc := hD.sub (ws' := (wX m_a m_there_a m_now_a m_kinds_a m_targets_a m_predicates_a m_numbers_a m_puts_a m_codes_a m_weights_a m_sets_a m_picks_a m_classes_a m_steps_a m_told_a cI cZ cB cC m_rules m_changesl87 m_mostTries m_tried m_settled m_found m_isCovered m_covered m_toldMany m_there x3 m_kinds m_targets m_predicates m_numbers m_putsl87 m_codesl87 m_weightsl87 m_sets m_picks m_classesl87 m_steps m_told)) [0, 1, 2, 3, 4, 5, 6, 7, 8, 9, 10, 11, 12, 13, 14] (by decide) rfl
                              refine k_callv (wr := []) (w1 := (wX m_a m_there_a m_now_a m_kinds_a m_targets_a m_predicates_a m_numbers_a m_puts_a m_codes_a m_weights_a m_sets_a m_picks_a m_classes_a m_steps_a m_told_a cI cZ cB cC m_rules x87 m_mostTries m_tried m_settled m_found m_isCovered m_covered m_toldMany m_there x3 m_kinds m_targets m_predicates m_numbers x88 x89 x90 m_sets m_picks m_classesl87 m_steps m_told)) (ws' := (wX m_a m_there_a m_now_a m_kinds_a m_targets_a m_predicates_a m_numbers_a m_puts_a m_codes_a m_weights_a m_sets_a m_picks_a m_classes_a m_steps_a m_told_a cI cZ cB cC m_rules x87 m_mostTries m_tried m_settled m_found m_isCovered m_covered m_toldMany m_there x3 m_kinds m_targets m_predicates m_numbers x88 x89 x90 m_sets m_picks m_classesl87 m_steps m_told)) (va_runV (As := [.int 0, .int x85]) (rest := []) ⟨hx, hb, hml, hown, hts⟩ (kK5_offer l D cI cZ cB cC H.size m_a m_there_a m_now_a m_kinds_a m_targets_a m_predicates_a m_numbers_a m_puts_a m_codes_a m_weights_a m_sets_a m_picks_a m_classes_a m_steps_a m_told_a m_rules m_changesl87 m_mostTries m_tried m_settled m_found m_isCovered m_covered m_toldMany m_there x3 m_kinds m_targets m_predicates m_numbers m_putsl87 m_codesl87 m_weightsl87 m_sets m_picks m_classesl87 m_steps m_told 0 x85 x87 x88 x89 x90 ec91) (cwV 2 hts (gdV wdt4_97 wdt4_99 wds2_5 wdt1_10 gkK5_offer) rfl rfl rfl (by decide +kernel) ⟨Nat.le_of_ble_eq_true rfl, Nat.le_of_ble_eq_true rfl⟩) ⟨Pr_blind, va_recv hK hPc (ci := 5) (q0 := 0) rfl rfl, fun U hU hW => ⟨rfl, Pr_at hK hN hPc hDc hU hW⟩⟩ rfl rfl hl.1 rfl (lv_room (Nat.le_of_ble_eq_true rfl)) dK5_suggest_365 ⟨Nat.le_of_ble_eq_true rfl, Nat.le_of_ble_eq_true rfl⟩) hP hD hS hA [0, 1, 2, 3, 4, 5, 6, 7, 8, 9, 10, 11, 12, 13, 14] [] [0, 1, 2, 3, 4, 5, 6, 7, 8, 9, 10, 11, 12, 13, 14] rfl rfl (by decide) (by decide) (by decide) rfl (fun H locs hP hD hS => ?_)
                              refine lv_aload_n hx hb dK5_suggest_368 rfl (lv_at hl 1 rfl) ?_
                              refine lv_iconst (v := 0) hx hb dK5_suggest_369 (by decide) ?_
                              refine lv_iload_n hx hb dK5_suggest_370 rfl (lv_at hl 3 rfl) ?_
                              refine lv_iload hx hb dK5_suggest_371 (lv_at hl 6 rfl) ?_
                              refine lv_iload hx hb dK5_suggest_373 (lv_at hl 7 rfl) ?_
                              obtain ⟨x92, ec93, hm⟩ := bd1_s hm
                              have hPc : va_P D vwCl [] H := va_P0
                              have hDc : va_D A [] := va_D0
                              refine k_calli0 (va_runS (As := [.int v2, .int x9, .int i6l87]) (rest := [.int 0, .ref m_a]) ⟨hx, hb, hml, hown, hts⟩ (kK5_codeOf l D cI cZ cB cC H.size v2 x9 i6l87 x92 ec93) (va_cwS 3 hts (gdS wdt4_26 wdt4_27 wdt1_10 gkK5_codeOf) rfl rfl rfl (by decide +kernel) ⟨Nat.le_of_ble_eq_true rfl, Nat.le_of_ble_eq_true rfl⟩) ⟨Pr_blind, fun U hU hW => ⟨rfl, Pr_at hK hN hPc hDc hU hW⟩⟩ rfl rfl hl.1 rfl (lv_room (Nat.le_of_ble_eq_true rfl)) dK5_suggest_375 ⟨Nat.le_of_ble_eq_true rfl, Nat.le_of_ble_eq_true rfl⟩) hP hD hS hA (fun H locs hP hD hS => ?_)
                              obtain ⟨x94, x95, x96, x97, ec98, hm⟩ := bd4_s hm
                              have hPc := hP.sub (ws' := (wX m_a m_there_a m_now_a m_kinds_a m_targets_a m_predicates_a m_numbers_a m_puts_a m_codes_a m_weights_a m_sets_a m_picks_a m_classes_a m_steps_a m_told_a cI cZ cB cC m_rules x87 m_mostTries m_tried m_settled m_found m_isCovered m_covered m_toldMany m_there x3 m_kinds m_targets m_predicates m_numbers x88 x89 x90 m_sets m_picks m_classesl87 m_steps m_told)) [0, 1, 2, 3, 4, 5, 6, 7, 8, 9, 10, 11, 12, 13, 14] rfl
                              have hDc := hD.sub (ws' := (wX m_a m_there_a m_now_a m_kinds_a m_targets_a m_predicates_a m_numbers_a m_puts_a m_codes_a m_weights_a m_sets_a m_picks_a m_classes_a m_steps_a m_told_a cI cZ cB cC m_rules x87 m_mostTries m_tried m_settled m_found m_isCovered m_covered m_toldMany m_there x3 m_kinds m_targets m_predicates m_numbers x88 x89 x90 m_sets m_picks m_classesl87 m_steps m_told)) [0, 1, 2, 3, 4, 5, 6, 7, 8, 9, 10, 11, 12, 13, 14] (by decide) rfl
                              refine k_callv (wr := []) (w1 := (wX m_a m_there_a m_now_a m_kinds_a m_targets_a m_predicates_a m_numbers_a m_puts_a m_codes_a m_weights_a m_sets_a m_picks_a m_classes_a m_steps_a m_told_a cI cZ cB cC m_rules x94 m_mostTries m_tried m_settled m_found m_isCovered m_covered m_toldMany m_there x3 m_kinds m_targets m_predicates m_numbers x95 x96 x97 m_sets m_picks m_classesl87 m_steps m_told)) (ws' := (wX m_a m_there_a m_now_a m_kinds_a m_targets_a m_predicates_a m_numbers_a m_puts_a m_codes_a m_weights_a m_sets_a m_picks_a m_classes_a m_steps_a m_told_a cI cZ cB cC m_rules x94 m_mostTries m_tried m_settled m_found m_isCovered m_covered m_toldMany m_there x3 m_kinds m_targets m_predicates m_numbers x95 x96 x97 m_sets m_picks m_classesl87 m_steps m_told)) (va_runV (As := [.int 0, .int x92]) (rest := []) ⟨hx, hb, hml, hown, hts⟩ (kK5_offer l D cI cZ cB cC H.size m_a m_there_a m_now_a m_kinds_a m_targets_a m_predicates_a m_numbers_a m_puts_a m_codes_a m_weights_a m_sets_a m_picks_a m_classes_a m_steps_a m_told_a m_rules x87 m_mostTries m_tried m_settled m_found m_isCovered m_covered m_toldMany m_there x3 m_kinds m_targets m_predicates m_numbers x88 x89 x90 m_sets m_picks m_classesl87 m_steps m_told 0 x92 x94 x95 x96 x97 ec98) (cwV 2 hts (gdV wdt4_97 wdt4_99 wds2_5 wdt1_10 gkK5_offer) rfl rfl rfl (by decide +kernel) ⟨Nat.le_of_ble_eq_true rfl, Nat.le_of_ble_eq_true rfl⟩) ⟨Pr_blind, va_recv hK hPc (ci := 5) (q0 := 0) rfl rfl, fun U hU hW => ⟨rfl, Pr_at hK hN hPc hDc hU hW⟩⟩ rfl rfl hl.1 rfl (lv_room (Nat.le_of_ble_eq_true rfl)) dK5_suggest_378 ⟨Nat.le_of_ble_eq_true rfl, Nat.le_of_ble_eq_true rfl⟩) hP hD hS hA [0, 1, 2, 3, 4, 5, 6, 7, 8, 9, 10, 11, 12, 13, 14] [] [0, 1, 2, 3, 4, 5, 6, 7, 8, 9, 10, 11, 12, 13, 14] rfl rfl (by decide) (by decide) (by decide) rfl (fun H locs hP hD hS => ?_)
                              obtain ⟨x99, ex99, hm⟩ := bd1_s hm
                              refine lv_iinc (v := x99) (lv' := [(6, .int x99), (8, .int s0j140), (0, .ref m_a), (1, .int v1), (2, .int v2), (3, .int m_changes), (4, .int x8), (5, .int x9), (7, .int x16)]) hx hb dK5_suggest_381 hl (k := 7) rfl (by rw [← Option.some.inj ex99]; rfl) (by decide) rfl (fun ls hl => ?_)
                              refine lv_goto (tgt := 87) hx hb dK5_suggest_384 (by decide) ?_
                              exact ih87 x99 x94 x95 x96 x97 m_classesl87 _ _ _ hm hP hD hS (lv_sub hl [0, 2, 3, 4, 5, 6, 7] rfl)
              have jn139 : ∀ (H : Heap) (locs : List Loc) (ls : Array Slot), mK5_suggest_J139 m_kinds v1 v2 x3 x8 x9 i6l87 m_changesl87 m_putsl87 m_codesl87 m_weightsl87 m_classesl87 (mK5_suggest_L87 m_kinds v1 v2 x3 x8 x9 (mK5_suggest_A87 m_changes x3) n87) x16 = some (r0, m_changes_r, m_now_r, m_puts_r, m_codes_r, m_weights_r, m_classes_r) → va_P D vwCl (wX m_a m_there_a m_now_a m_kinds_a m_targets_a m_predicates_a m_numbers_a m_puts_a m_codes_a m_weights_a m_sets_a m_picks_a m_classes_a m_steps_a m_told_a cI cZ cB cC m_rules m_changesl87 m_mostTries m_tried m_settled m_found m_isCovered m_covered m_toldMany m_there x3 m_kinds m_targets m_predicates m_numbers m_putsl87 m_codesl87 m_weightsl87 m_sets m_picks m_classesl87 m_steps m_told) H → va_D A (wX m_a m_there_a m_now_a m_kinds_a m_targets_a m_predicates_a m_numbers_a m_puts_a m_codes_a m_weights_a m_sets_a m_picks_a m_classes_a m_steps_a m_told_a cI cZ cB cC m_rules m_changesl87 m_mostTries m_tried m_settled m_found m_isCovered m_covered m_toldMany m_there x3 m_kinds m_targets m_predicates m_numbers m_putsl87 m_codesl87 m_weightsl87 m_sets m_picks m_classesl87 m_steps m_told) → va_S A s.heap H locs → lv_has ls 9 [(0, .ref m_a), (1, .int v1), (2, .int v2), (3, .int m_changes), (4, .int x8), (5, .int x9), (6, .int i6l87), (7, .int x16)] → W p l e (headSpec wsK5_suggest rmK5_suggest).room s m ([.ref m_a, .int v1, .int v2] : List Value).toArray below meth c H locs 0 0 (MQ below (QI D A r0 (wX m_a m_there_a m_now_a m_kinds_a m_targets_a m_predicates_a m_numbers_a m_puts_a m_codes_a m_weights_a m_sets_a m_picks_a m_classes_a m_steps_a m_told_a cI cZ cB cC m_rules m_changes_r m_mostTries m_tried m_settled m_found m_isCovered m_covered m_toldMany m_there m_now_r m_kinds m_targets m_predicates m_numbers m_puts_r m_codes_r m_weights_r m_sets m_picks m_classes_r m_steps m_told)) ([.ref m_a, .int v1, .int v2] : List Value).toArray s 0 0 A) (F0 m 139 ls []) := by
                intro H locs ls hm hP hD hS hl
                unfold mK5_suggest_J139 at hm
                refine lv_iconst (v := 0) hx hb dK5_suggest_139 (by decide) ?_
                exact jn140 0 _ _ _ hm hP hD hS (lv_sub hl [0, 1, 2, 3, 4, 5, 6, 7] rfl)
              refine lv_icmp_le (tgt := 139) hx hb dK5_suggest_116 (by decide) (fun hc => ?_) (fun hc => ?_)
              · replace hm := ift hm hc
                exact jn139  _ _ _ hm hP hD hS (lv_sub hl [2, 3, 4, 5, 6, 7, 1, 0] rfl)
              · replace hm := iff_ hm hc
                refine lv_aload_n hx hb dK5_suggest_119 rfl (lv_at hl 2 rfl) ?_
                refine va_get (D := D) (ci := 5) (v := .ref m_now_a) (C := RK5) (T := TK5) (N := 23) hx hb hts inK5 hown hK hP 0 rfl rfl 1 (by decide) (hts _ wdt3_187) (fun _ h9 => h9) rfl dK5_suggest_120 ?_
                refine lv_iload_n hx hb dK5_suggest_123 rfl (lv_at hl 4 rfl) ?_
                refine lv_iload hx hb dK5_suggest_124 (lv_at hl 7 rfl) ?_
                refine lv_iload hx hb dK5_suggest_126 (lv_at hl 1 rfl) ?_
                obtain ⟨x100, ec101, hm⟩ := bd1_s hm
                have hPc : va_P D vwCl [] H := va_P0
                have hDc : va_D A [] := va_D0
                refine k_calli0 (va_runS (As := [.int v2, .int x9, .int i6l87]) (rest := [.ref m_now_a]) ⟨hx, hb, hml, hown, hts⟩ (kK5_codeOf l D cI cZ cB cC H.size v2 x9 i6l87 x100 ec101) (va_cwS 3 hts (gdS wdt4_26 wdt4_27 wdt1_10 gkK5_codeOf) rfl rfl rfl (by decide +kernel) ⟨Nat.le_of_ble_eq_true rfl, Nat.le_of_ble_eq_true rfl⟩) ⟨Pr_blind, fun U hU hW => ⟨rfl, Pr_at hK hN hPc hDc hU hW⟩⟩ rfl rfl hl.1 rfl (lv_room (Nat.le_of_ble_eq_true rfl)) dK5_suggest_128 ⟨Nat.le_of_ble_eq_true rfl, Nat.le_of_ble_eq_true rfl⟩) hP hD hS hA (fun H locs hP hD hS => ?_)
                obtain ⟨x102, ex102, hm⟩ := bd1_s hm
                obtain ⟨hix102, ex102⟩ := rd_s ex102
                refine va_zald hx hb hK hP 2 1 rfl rfl hix102 dK5_suggest_131 ?_
                refine topi ex102 ?_
                refine lv_if_eq (tgt := 139) hx hb dK5_suggest_132 (by decide) (fun hc => ?_) (fun hc => ?_)
                · replace hm := ift hm hc
                  exact jn139  _ _ _ hm hP hD hS (lv_sub hl [2, 3, 4, 5, 6, 7, 1, 0] rfl)
                · replace hm := iff_ hm hc
                  refine lv_iconst (v := 1) hx hb dK5_suggest_135 (by decide) ?_
                  refine lv_goto (tgt := 140) hx hb dK5_suggest_136 (by decide) ?_
                  exact jn140 1 _ _ _ hm hP hD hS (lv_sub hl [2, 3, 4, 5, 6, 7, 1, 0] rfl)
        exact lp87 5000 0 m_changesj84 m_putsj84 m_codesj84 m_weightsj84 x6 _ _ _ hm hP hD hS (lv_sub hl [0, 1, 2, 3, 4, 5, 6] rfl)
      refine lv_if_eq (tgt := 84) hx hb dK5_suggest_65 (by decide) (fun hc => ?_) (fun hc => ?_)
      · replace hm := ift hm hc
        exact jn84 m_changes m_puts m_codes m_weights _ _ _ hm hP hD hS (lv_sub hl [3, 4, 5, 2, 1, 0] rfl)
      · replace hm := iff_ hm hc
        refine lv_aload_n hx hb dK5_suggest_68 rfl (lv_at hl 3 rfl) ?_
        refine lv_iconst (v := 0) hx hb dK5_suggest_69 (by decide) ?_
        refine lv_iload_n hx hb dK5_suggest_70 rfl (lv_at hl 5 rfl) ?_
        refine lv_iconst (v := 0) hx hb dK5_suggest_71 (by decide) ?_
        refine lv_aload_n hx hb dK5_suggest_72 rfl (lv_at hl 3 rfl) ?_
        refine va_get (D := D) (ci := 5) (v := .ref m_targets_a) (C := RK5) (T := TK5) (N := 23) hx hb hts inK5 hown hK hP 0 rfl rfl 4 (by decide) (hts _ wdt3_190) (fun _ h9 => h9) rfl dK5_suggest_73 ?_
        refine lv_iload_n hx hb dK5_suggest_76 rfl (lv_at hl 4 rfl) ?_
        obtain ⟨x103, ex103, hm⟩ := bd1_s hm
        obtain ⟨hix103, ex103⟩ := rd_s ex103
        refine va_iald hx hb hK hP 4 0 rfl rfl hix103 dK5_suggest_77 ?_
        refine topi ex103 ?_
        obtain ⟨x104, ec105, hm⟩ := bd1_s hm
        have hPc : va_P D vwCl [] H := va_P0
        have hDc : va_D A [] := va_D0
        refine k_calli0 (va_runS (As := [.int v2, .int 0, .int x103]) (rest := [.int 0, .ref m_a]) ⟨hx, hb, hml, hown, hts⟩ (kK5_codeOf l D cI cZ cB cC H.size v2 0 x103 x104 ec105) (va_cwS 3 hts (gdS wdt4_26 wdt4_27 wdt1_10 gkK5_codeOf) rfl rfl rfl (by decide +kernel) ⟨Nat.le_of_ble_eq_true rfl, Nat.le_of_ble_eq_true rfl⟩) ⟨Pr_blind, fun U hU hW => ⟨rfl, Pr_at hK hN hPc hDc hU hW⟩⟩ rfl rfl hl.1 rfl (lv_room (Nat.le_of_ble_eq_true rfl)) dK5_suggest_78 ⟨Nat.le_of_ble_eq_true rfl, Nat.le_of_ble_eq_true rfl⟩) hP hD hS hA (fun H locs hP hD hS => ?_)
        obtain ⟨x106, x107, x108, x109, ec110, hm⟩ := bd4_s hm
        have hPc := hP.sub (ws' := (wX m_a m_there_a m_now_a m_kinds_a m_targets_a m_predicates_a m_numbers_a m_puts_a m_codes_a m_weights_a m_sets_a m_picks_a m_classes_a m_steps_a m_told_a cI cZ cB cC m_rules m_changes m_mostTries m_tried m_settled m_found m_isCovered m_covered m_toldMany m_there x3 m_kinds m_targets m_predicates m_numbers m_puts m_codes m_weights m_sets m_picks x6 m_steps m_told)) [0, 1, 2, 3, 4, 5, 6, 7, 8, 9, 10, 11, 12, 13, 14] rfl
        have hDc := hD.sub (ws' := (wX m_a m_there_a m_now_a m_kinds_a m_targets_a m_predicates_a m_numbers_a m_puts_a m_codes_a m_weights_a m_sets_a m_picks_a m_classes_a m_steps_a m_told_a cI cZ cB cC m_rules m_changes m_mostTries m_tried m_settled m_found m_isCovered m_covered m_toldMany m_there x3 m_kinds m_targets m_predicates m_numbers m_puts m_codes m_weights m_sets m_picks x6 m_steps m_told)) [0, 1, 2, 3, 4, 5, 6, 7, 8, 9, 10, 11, 12, 13, 14] (by decide) rfl
        refine k_callv (wr := []) (w1 := (wX m_a m_there_a m_now_a m_kinds_a m_targets_a m_predicates_a m_numbers_a m_puts_a m_codes_a m_weights_a m_sets_a m_picks_a m_classes_a m_steps_a m_told_a cI cZ cB cC m_rules x106 m_mostTries m_tried m_settled m_found m_isCovered m_covered m_toldMany m_there x3 m_kinds m_targets m_predicates m_numbers x107 x108 x109 m_sets m_picks x6 m_steps m_told)) (ws' := (wX m_a m_there_a m_now_a m_kinds_a m_targets_a m_predicates_a m_numbers_a m_puts_a m_codes_a m_weights_a m_sets_a m_picks_a m_classes_a m_steps_a m_told_a cI cZ cB cC m_rules x106 m_mostTries m_tried m_settled m_found m_isCovered m_covered m_toldMany m_there x3 m_kinds m_targets m_predicates m_numbers x107 x108 x109 m_sets m_picks x6 m_steps m_told)) (va_runV (As := [.int 0, .int x104]) (rest := []) ⟨hx, hb, hml, hown, hts⟩ (kK5_offer l D cI cZ cB cC H.size m_a m_there_a m_now_a m_kinds_a m_targets_a m_predicates_a m_numbers_a m_puts_a m_codes_a m_weights_a m_sets_a m_picks_a m_classes_a m_steps_a m_told_a m_rules m_changes m_mostTries m_tried m_settled m_found m_isCovered m_covered m_toldMany m_there x3 m_kinds m_targets m_predicates m_numbers m_puts m_codes m_weights m_sets m_picks x6 m_steps m_told 0 x104 x106 x107 x108 x109 ec110) (cwV 2 hts (gdV wdt4_97 wdt4_99 wds2_5 wdt1_10 gkK5_offer) rfl rfl rfl (by decide +kernel) ⟨Nat.le_of_ble_eq_true rfl, Nat.le_of_ble_eq_true rfl⟩) ⟨Pr_blind, va_recv hK hPc (ci := 5) (q0 := 0) rfl rfl, fun U hU hW => ⟨rfl, Pr_at hK hN hPc hDc hU hW⟩⟩ rfl rfl hl.1 rfl (lv_room (Nat.le_of_ble_eq_true rfl)) dK5_suggest_81 ⟨Nat.le_of_ble_eq_true rfl, Nat.le_of_ble_eq_true rfl⟩) hP hD hS hA [0, 1, 2, 3, 4, 5, 6, 7, 8, 9, 10, 11, 12, 13, 14] [] [0, 1, 2, 3, 4, 5, 6, 7, 8, 9, 10, 11, 12, 13, 14] rfl rfl (by decide) (by decide) (by decide) rfl (fun H locs hP hD hS => ?_)
        exact jn84 x106 x107 x108 x109 _ _ _ hm hP hD hS (lv_sub hl [3, 4, 5, 2, 1, 0] rfl)
    · replace hm := ift hm hc
      refine lv_bipush (v := (-2)) hx hb dK5_suggest_25 (by decide) ?_
      replace hm := Option.some.inj hm
      simp only [Prod.mk.injEq] at hm
      obtain ⟨rfl, rfl, rfl, rfl, rfl, rfl, rfl⟩ := hm
      exact k_reti hx hb hr hlocks hP hD hS dK5_suggest_27
  · replace hm := ift hm hc
    refine lv_iconst (v := (-1)) hx hb dK5_suggest_9 (by decide) ?_
    replace hm := Option.some.inj hm
    simp only [Prod.mk.injEq] at hm
    obtain ⟨rfl, rfl, rfl, rfl, rfl, rfl, rfl⟩ := hm
    exact k_reti hx hb hr hlocks hP hD hS dK5_suggest_10
