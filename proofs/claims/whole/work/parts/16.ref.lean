def mK5_rule_J21 (m_rules : Int32) (m_kinds : Nat → Int32) (m_targets : Nat → Int32) (m_predicates : Nat → Int32) (m_numbers : Nat → Int32) (v1 : Int32) (v2 : Int32) (v3 : Int32) (v4 : Int32) (s0j21 : Int32) : Option (Int32 × Int32 × (Nat → Int32) × (Nat → Int32) × (Nat → Int32) × (Nat → Int32)) :=
  bd1 (mK5_in v1 0 5) fun x1 => if x1 = 0 then
  (some ((-1), m_rules, m_kinds, m_targets, m_predicates, m_numbers))
  else
  (bd1 (mK5_in v2 0 11) fun x3 => if x3 = 0 then
    (some ((-1), m_rules, m_kinds, m_targets, m_predicates, m_numbers))
    else
    (bd1 (mK5_in v3 0 5) fun x5 => if x5 = 0 then
      (some ((-1), m_rules, m_kinds, m_targets, m_predicates, m_numbers))
      else
      (bd1 (mK5_in v4 0 s0j21) fun x7 => if x7 = 0 then
        (some ((-1), m_rules, m_kinds, m_targets, m_predicates, m_numbers))
        else
        (if m_rules = 10 then
          (some ((-3), m_rules, m_kinds, m_targets, m_predicates, m_numbers))
          else
          (bd1 (wrt m_kinds 10 m_rules v1) fun x9 => bd1 (wrt m_targets 10 m_rules v2) fun x10 => bd1 (wrt m_predicates 10 m_rules v3) fun x11 => bd1 (wrt m_numbers 10 m_rules v4) fun x12 => bd1 (some (m_rules + 1)) fun x13 => some (x13 - 1, x13, x9, x10, x11, x12))))))
def mK5_rule (m_rules : Int32) (m_kinds : Nat → Int32) (m_targets : Nat → Int32) (m_predicates : Nat → Int32) (m_numbers : Nat → Int32) (v1 : Int32) (v2 : Int32) (v3 : Int32) (v4 : Int32) : Option (Int32 × Int32 × (Nat → Int32) × (Nat → Int32) × (Nat → Int32) × (Nat → Int32)) :=
  if 2 ≤ v1 then
  (if 4 ≤ v1 then
    (mK5_rule_J21 m_rules m_kinds m_targets m_predicates m_numbers v1 v2 v3 v4 5)
    else
    (mK5_rule_J21 m_rules m_kinds m_targets m_predicates m_numbers v1 v2 v3 v4 11))
  else
  (mK5_rule_J21 m_rules m_kinds m_targets m_predicates m_numbers v1 v2 v3 v4 12)
abbrev rmK5_rule : Room := { frames := 1, cells := 0, slots := 0, locals := 22 }
set_option maxHeartbeats 4000000 in
set_option maxRecDepth 100000 in
theorem kK5_rule (l : Launch) (D : va_G) (cI cZ cB cC : ClassId) (sz : Nat) (m_a : Nat) (m_there_a : Nat) (m_now_a : Nat) (m_kinds_a : Nat) (m_targets_a : Nat) (m_predicates_a : Nat) (m_numbers_a : Nat) (m_puts_a : Nat) (m_codes_a : Nat) (m_weights_a : Nat) (m_sets_a : Nat) (m_picks_a : Nat) (m_classes_a : Nat) (m_steps_a : Nat) (m_told_a : Nat) (m_rules : Int32) (m_changes : Int32) (m_mostTries : Int32) (m_tried : Int32) (m_settled : Int32) (m_found : Int32) (m_isCovered : Int32) (m_covered : Int32) (m_toldMany : Int32) (m_there : Nat → Int32) (m_now : Nat → Int32) (m_kinds : Nat → Int32) (m_targets : Nat → Int32) (m_predicates : Nat → Int32) (m_numbers : Nat → Int32) (m_puts : Nat → Int32) (m_codes : Nat → Int32) (m_weights : Nat → Int32) (m_sets : Nat → Int32) (m_picks : Nat → Int32) (m_classes : Nat → Int32) (m_steps : Nat → Int32) (m_told : Nat → Int32) (v1 : Int32) (v2 : Int32) (v3 : Int32) (v4 : Int32) (r0 : Int32) (m_rules_r : Int32) (m_kinds_r : Nat → Int32) (m_targets_r : Nat → Int32) (m_predicates_r : Nat → Int32) (m_numbers_r : Nat → Int32) (hm : mK5_rule m_rules m_kinds m_targets m_predicates m_numbers v1 v2 v3 v4 = some (r0, m_rules_r, m_kinds_r, m_targets_r, m_predicates_r, m_numbers_r)) : Met l yK5_rule wsK5_rule rmK5_rule (va_Pc [.ref m_a, .int v1, .int v2, .int v3, .int v4] (Pr D (tyL cI cZ cB cC) sz (wX m_a m_there_a m_now_a m_kinds_a m_targets_a m_predicates_a m_numbers_a m_puts_a m_codes_a m_weights_a m_sets_a m_picks_a m_classes_a m_steps_a m_told_a cI cZ cB cC m_rules m_changes m_mostTries m_tried m_settled m_found m_isCovered m_covered m_toldMany m_there m_now m_kinds m_targets m_predicates m_numbers m_puts m_codes m_weights m_sets m_picks m_classes m_steps m_told))) (QI D (va_A (wX m_a m_there_a m_now_a m_kinds_a m_targets_a m_predicates_a m_numbers_a m_puts_a m_codes_a m_weights_a m_sets_a m_picks_a m_classes_a m_steps_a m_told_a cI cZ cB cC m_rules m_changes m_mostTries m_tried m_settled m_found m_isCovered m_covered m_toldMany m_there m_now m_kinds m_targets m_predicates m_numbers m_puts m_codes m_weights m_sets m_picks m_classes m_steps m_told) sz) r0 (wX m_a m_there_a m_now_a m_kinds_a m_targets_a m_predicates_a m_numbers_a m_puts_a m_codes_a m_weights_a m_sets_a m_picks_a m_classes_a m_steps_a m_told_a cI cZ cB cC m_rules_r m_changes m_mostTries m_tried m_settled m_found m_isCovered m_covered m_toldMany m_there m_now m_kinds_r m_targets_r m_predicates_r m_numbers_r m_puts m_codes m_weights m_sets m_picks m_classes m_steps m_told)) 0 0 (va_A (wX m_a m_there_a m_now_a m_kinds_a m_targets_a m_predicates_a m_numbers_a m_puts_a m_codes_a m_weights_a m_sets_a m_picks_a m_classes_a m_steps_a m_told_a cI cZ cB cC m_rules m_changes m_mostTries m_tried m_settled m_found m_isCovered m_covered m_toldMany m_there m_now m_kinds m_targets m_predicates m_numbers m_puts m_codes m_weights m_sets m_picks m_classes m_steps m_told) sz) := by
  refine Met.ofW (cc := cK5_rule) (maxL := 6) (ret := (some .int)) (by decide) rfl ?_
  intro p e s m args below meth c s₁ B hml hv
  obtain ⟨rfl, hsz, hP, hK, hD0, hN⟩ := hv
  have hx := B.exec
  have hb := B.bytes
  have hr := B.returns
  have hts := htsA (atoms_spec (ws := wsK5_rule) B.pre)
  have hown : s.vm.findClass RK5 = some m.cls := findClass_of_methodNamed B.named
  have hlocks := B.notSynchronized
  subst hsz
  have hD := hD0.self (sz := s.heap.size)
  generalize hAe : va_A (wX m_a m_there_a m_now_a m_kinds_a m_targets_a m_predicates_a m_numbers_a m_puts_a m_codes_a m_weights_a m_sets_a m_picks_a m_classes_a m_steps_a m_told_a cI cZ cB cC m_rules m_changes m_mostTries m_tried m_settled m_found m_isCovered m_covered m_toldMany m_there m_now m_kinds m_targets m_predicates m_numbers m_puts m_codes m_weights m_sets m_picks m_classes m_steps m_told) s.heap.size = A at hD ⊢
  have hA : ∀ q : Nat, s.heap.size ≤ q → A q := fun q h => by rw [← hAe]; exact Or.inr h
  refine kstart (A := A) hP (fun H hP hS => ?_)
  have hl := lv_entry ([.ref m_a, .int v1, .int v2, .int v3, .int v4]) (n := 6) (Nat.le_of_ble_eq_true rfl)
  rw [lg_entry_eq]
  generalize (lg_sl ([.ref m_a, .int v1, .int v2, .int v3, .int v4]) ++ List.replicate (6 - (lg_sl ([.ref m_a, .int v1, .int v2, .int v3, .int v4])).length) Slot.unset).toArray = ls at hl ⊢
  have hl : lv_has ls 6 [(0, .ref m_a), (1, .int v1), (2, .int v2), (3, .int v3), (4, .int v4)] := hl
  unfold mK5_rule at hm
  refine lv_iload_n hx hb dK5_rule_0 rfl (lv_at hl 1 rfl) ?_
  refine lv_iconst (v := 2) hx hb dK5_rule_1 (by decide) ?_
  have jn21 : ∀ (s0j21 : Int32) (H : Heap) (locs : List Loc) (ls : Array Slot), mK5_rule_J21 m_rules m_kinds m_targets m_predicates m_numbers v1 v2 v3 v4 s0j21 = some (r0, m_rules_r, m_kinds_r, m_targets_r, m_predicates_r, m_numbers_r) → va_P D vwCl (wX m_a m_there_a m_now_a m_kinds_a m_targets_a m_predicates_a m_numbers_a m_puts_a m_codes_a m_weights_a m_sets_a m_picks_a m_classes_a m_steps_a m_told_a cI cZ cB cC m_rules m_changes m_mostTries m_tried m_settled m_found m_isCovered m_covered m_toldMany m_there m_now m_kinds m_targets m_predicates m_numbers m_puts m_codes m_weights m_sets m_picks m_classes m_steps m_told) H → va_D A (wX m_a m_there_a m_now_a m_kinds_a m_targets_a m_predicates_a m_numbers_a m_puts_a m_codes_a m_weights_a m_sets_a m_picks_a m_classes_a m_steps_a m_told_a cI cZ cB cC m_rules m_changes m_mostTries m_tried m_settled m_found m_isCovered m_covered m_toldMany m_there m_now m_kinds m_targets m_predicates m_numbers m_puts m_codes m_weights m_sets m_picks m_classes m_steps m_told) → va_S A s.heap H locs → lv_has ls 6 [(0, .ref m_a), (1, .int v1), (2, .int v2), (3, .int v3), (4, .int v4)] → W p l e (headSpec wsK5_rule rmK5_rule).room s m ([.ref m_a, .int v1, .int v2, .int v3, .int v4] : List Value).toArray below meth c H locs 0 0 (MQ below (QI D A r0 (wX m_a m_there_a m_now_a m_kinds_a m_targets_a m_predicates_a m_numbers_a m_puts_a m_codes_a m_weights_a m_sets_a m_picks_a m_classes_a m_steps_a m_told_a cI cZ cB cC m_rules_r m_changes m_mostTries m_tried m_settled m_found m_isCovered m_covered m_toldMany m_there m_now m_kinds_r m_targets_r m_predicates_r m_numbers_r m_puts m_codes m_weights m_sets m_picks m_classes m_steps m_told)) ([.ref m_a, .int v1, .int v2, .int v3, .int v4] : List Value).toArray s 0 0 A) (F0 m 21 ls [.int s0j21]) := by
    intro s0j21 H locs ls hm hP hD hS hl
    unfold mK5_rule_J21 at hm
    refine lv_istore (lv' := [(5, .int s0j21), (0, .ref m_a), (1, .int v1), (2, .int v2), (3, .int v3), (4, .int v4)]) hx hb dK5_rule_21 hl (by decide) rfl (fun ls hl => ?_)
    refine lv_iload_n hx hb dK5_rule_23 rfl (lv_at hl 2 rfl) ?_
    refine lv_iconst (v := 0) hx hb dK5_rule_24 (by decide) ?_
    refine lv_iconst (v := 5) hx hb dK5_rule_25 (by decide) ?_
    obtain ⟨x1, ec2, hm⟩ := bd1_s hm
    have hPc : va_P D vwCl [] H := va_P0
    have hDc : va_D A [] := va_D0
    refine k_calli0 (va_runS (As := [.int v1, .int 0, .int 5]) (rest := []) ⟨hx, hb, hml, hown, hts⟩ (kK5_in l D cI cZ cB cC H.size v1 0 5 x1 ec2) (va_cwS 3 hts (gdS wdt4_23 wdt4_24 wdt1_10 gkK5_in) rfl rfl rfl (by decide +kernel) ⟨Nat.le_of_ble_eq_true rfl, Nat.le_of_ble_eq_true rfl⟩) ⟨Pr_blind, fun U hU hW => ⟨rfl, Pr_at hK hN hPc hDc hU hW⟩⟩ rfl rfl hl.1 rfl (lv_room (Nat.le_of_ble_eq_true rfl)) dK5_rule_26 ⟨Nat.le_of_ble_eq_true rfl, Nat.le_of_ble_eq_true rfl⟩) hP hD hS hA (fun H locs hP hD hS => ?_)
    refine lv_if_eq (tgt := 62) hx hb dK5_rule_29 (by decide) (fun hc => ?_) (fun hc => ?_)
    · replace hm := ift hm hc
      refine lv_iconst (v := (-1)) hx hb dK5_rule_62 (by decide) ?_
      replace hm := Option.some.inj hm
      simp only [Prod.mk.injEq] at hm
      obtain ⟨rfl, rfl, rfl, rfl, rfl, rfl⟩ := hm
      exact k_reti hx hb hr hlocks hP hD hS dK5_rule_63
    · replace hm := iff_ hm hc
      refine lv_iload_n hx hb dK5_rule_32 rfl (lv_at hl 3 rfl) ?_
      refine lv_iconst (v := 0) hx hb dK5_rule_33 (by decide) ?_
      refine lv_bipush (v := 11) hx hb dK5_rule_34 (by decide) ?_
      obtain ⟨x3, ec4, hm⟩ := bd1_s hm
      have hPc : va_P D vwCl [] H := va_P0
      have hDc : va_D A [] := va_D0
      refine k_calli0 (va_runS (As := [.int v2, .int 0, .int 11]) (rest := []) ⟨hx, hb, hml, hown, hts⟩ (kK5_in l D cI cZ cB cC H.size v2 0 11 x3 ec4) (va_cwS 3 hts (gdS wdt4_23 wdt4_24 wdt1_10 gkK5_in) rfl rfl rfl (by decide +kernel) ⟨Nat.le_of_ble_eq_true rfl, Nat.le_of_ble_eq_true rfl⟩) ⟨Pr_blind, fun U hU hW => ⟨rfl, Pr_at hK hN hPc hDc hU hW⟩⟩ rfl rfl hl.1 rfl (lv_room (Nat.le_of_ble_eq_true rfl)) dK5_rule_36 ⟨Nat.le_of_ble_eq_true rfl, Nat.le_of_ble_eq_true rfl⟩) hP hD hS hA (fun H locs hP hD hS => ?_)
      refine lv_if_eq (tgt := 62) hx hb dK5_rule_39 (by decide) (fun hc => ?_) (fun hc => ?_)
      · replace hm := ift hm hc
        refine lv_iconst (v := (-1)) hx hb dK5_rule_62 (by decide) ?_
        replace hm := Option.some.inj hm
        simp only [Prod.mk.injEq] at hm
        obtain ⟨rfl, rfl, rfl, rfl, rfl, rfl⟩ := hm
        exact k_reti hx hb hr hlocks hP hD hS dK5_rule_63
      · replace hm := iff_ hm hc
        refine lv_iload_n hx hb dK5_rule_42 rfl (lv_at hl 4 rfl) ?_
        refine lv_iconst (v := 0) hx hb dK5_rule_43 (by decide) ?_
        refine lv_iconst (v := 5) hx hb dK5_rule_44 (by decide) ?_
        obtain ⟨x5, ec6, hm⟩ := bd1_s hm
        have hPc : va_P D vwCl [] H := va_P0
        have hDc : va_D A [] := va_D0
        refine k_calli0 (va_runS (As := [.int v3, .int 0, .int 5]) (rest := []) ⟨hx, hb, hml, hown, hts⟩ (kK5_in l D cI cZ cB cC H.size v3 0 5 x5 ec6) (va_cwS 3 hts (gdS wdt4_23 wdt4_24 wdt1_10 gkK5_in) rfl rfl rfl (by decide +kernel) ⟨Nat.le_of_ble_eq_true rfl, Nat.le_of_ble_eq_true rfl⟩) ⟨Pr_blind, fun U hU hW => ⟨rfl, Pr_at hK hN hPc hDc hU hW⟩⟩ rfl rfl hl.1 rfl (lv_room (Nat.le_of_ble_eq_true rfl)) dK5_rule_45 ⟨Nat.le_of_ble_eq_true rfl, Nat.le_of_ble_eq_true rfl⟩) hP hD hS hA (fun H locs hP hD hS => ?_)
        refine lv_if_eq (tgt := 62) hx hb dK5_rule_48 (by decide) (fun hc => ?_) (fun hc => ?_)
        · replace hm := ift hm hc
          refine lv_iconst (v := (-1)) hx hb dK5_rule_62 (by decide) ?_
          replace hm := Option.some.inj hm
          simp only [Prod.mk.injEq] at hm
          obtain ⟨rfl, rfl, rfl, rfl, rfl, rfl⟩ := hm
          exact k_reti hx hb hr hlocks hP hD hS dK5_rule_63
        · replace hm := iff_ hm hc
          refine lv_iload hx hb dK5_rule_51 (lv_at hl 5 rfl) ?_
          refine lv_iconst (v := 0) hx hb dK5_rule_53 (by decide) ?_
          refine lv_iload hx hb dK5_rule_54 (lv_at hl 0 rfl) ?_
          obtain ⟨x7, ec8, hm⟩ := bd1_s hm
          have hPc : va_P D vwCl [] H := va_P0
          have hDc : va_D A [] := va_D0
          refine k_calli0 (va_runS (As := [.int v4, .int 0, .int s0j21]) (rest := []) ⟨hx, hb, hml, hown, hts⟩ (kK5_in l D cI cZ cB cC H.size v4 0 s0j21 x7 ec8) (va_cwS 3 hts (gdS wdt4_23 wdt4_24 wdt1_10 gkK5_in) rfl rfl rfl (by decide +kernel) ⟨Nat.le_of_ble_eq_true rfl, Nat.le_of_ble_eq_true rfl⟩) ⟨Pr_blind, fun U hU hW => ⟨rfl, Pr_at hK hN hPc hDc hU hW⟩⟩ rfl rfl hl.1 rfl (lv_room (Nat.le_of_ble_eq_true rfl)) dK5_rule_56 ⟨Nat.le_of_ble_eq_true rfl, Nat.le_of_ble_eq_true rfl⟩) hP hD hS hA (fun H locs hP hD hS => ?_)
          refine lv_if_ne (tgt := 64) hx hb dK5_rule_59 (by decide) (fun hc => ?_) (fun hc => ?_)
          · replace hm := iff_ hm hc
            refine lv_aload_n hx hb dK5_rule_64 rfl (lv_at hl 1 rfl) ?_
            refine va_get (D := D) (ci := 5) (v := .int m_rules) (C := RK5) (T := TK5) (N := 23) hx hb hts inK5 hown hK hP 0 rfl rfl 2 (by decide) (hts _ wdt3_188) (fun _ h9 => h9) rfl dK5_rule_65 ?_
            refine lv_bipush (v := 10) hx hb dK5_rule_68 (by decide) ?_
            refine lv_icmp_ne (tgt := 76) hx hb dK5_rule_70 (by decide) (fun hc => ?_) (fun hc => ?_)
            · replace hm := iff_ hm hc
              refine lv_aload_n hx hb dK5_rule_76 rfl (lv_at hl 1 rfl) ?_
              refine va_get (D := D) (ci := 5) (v := .ref m_kinds_a) (C := RK5) (T := TK5) (N := 23) hx hb hts inK5 hown hK hP 0 rfl rfl 3 (by decide) (hts _ wdt3_189) (fun _ h9 => h9) rfl dK5_rule_77 ?_
              refine lv_aload_n hx hb dK5_rule_80 rfl (lv_at hl 1 rfl) ?_
              refine va_get (D := D) (ci := 5) (v := .int m_rules) (C := RK5) (T := TK5) (N := 23) hx hb hts inK5 hown hK hP 0 rfl rfl 2 (by decide) (hts _ wdt3_188) (fun _ h9 => h9) rfl dK5_rule_81 ?_
              refine lv_iload_n hx hb dK5_rule_84 rfl (lv_at hl 2 rfl) ?_
              obtain ⟨x9, ex9, hm⟩ := bd1_s hm
              obtain ⟨hix9, ex9⟩ := wrt_s ex9
              refine va_iast hx hb hK hP hD hS 3 0 rfl rfl hix9 dK5_rule_85 (fun H locs hP hD hS => ?_)
              rw [ex9] at hP hD
              have hP : va_P D vwCl (wX m_a m_there_a m_now_a m_kinds_a m_targets_a m_predicates_a m_numbers_a m_puts_a m_codes_a m_weights_a m_sets_a m_picks_a m_classes_a m_steps_a m_told_a cI cZ cB cC m_rules m_changes m_mostTries m_tried m_settled m_found m_isCovered m_covered m_toldMany m_there m_now x9 m_targets m_predicates m_numbers m_puts m_codes m_weights m_sets m_picks m_classes m_steps m_told) H := hP
              have hD : va_D A (wX m_a m_there_a m_now_a m_kinds_a m_targets_a m_predicates_a m_numbers_a m_puts_a m_codes_a m_weights_a m_sets_a m_picks_a m_classes_a m_steps_a m_told_a cI cZ cB cC m_rules m_changes m_mostTries m_tried m_settled m_found m_isCovered m_covered m_toldMany m_there m_now x9 m_targets m_predicates m_numbers m_puts m_codes m_weights m_sets m_picks m_classes m_steps m_told) := hD
              refine lv_aload_n hx hb dK5_rule_86 rfl (lv_at hl 1 rfl) ?_
              refine va_get (D := D) (ci := 5) (v := .ref m_targets_a) (C := RK5) (T := TK5) (N := 23) hx hb hts inK5 hown hK hP 0 rfl rfl 4 (by decide) (hts _ wdt3_190) (fun _ h9 => h9) rfl dK5_rule_87 ?_
              refine lv_aload_n hx hb dK5_rule_90 rfl (lv_at hl 1 rfl) ?_
              refine va_get (D := D) (ci := 5) (v := .int m_rules) (C := RK5) (T := TK5) (N := 23) hx hb hts inK5 hown hK hP 0 rfl rfl 2 (by decide) (hts _ wdt3_188) (fun _ h9 => h9) rfl dK5_rule_91 ?_
              refine lv_iload_n hx hb dK5_rule_94 rfl (lv_at hl 3 rfl) ?_
              obtain ⟨x10, ex10, hm⟩ := bd1_s hm
              obtain ⟨hix10, ex10⟩ := wrt_s ex10
              refine va_iast hx hb hK hP hD hS 4 0 rfl rfl hix10 dK5_rule_95 (fun H locs hP hD hS => ?_)
              rw [ex10] at hP hD
              have hP : va_P D vwCl (wX m_a m_there_a m_now_a m_kinds_a m_targets_a m_predicates_a m_numbers_a m_puts_a m_codes_a m_weights_a m_sets_a m_picks_a m_classes_a m_steps_a m_told_a cI cZ cB cC m_rules m_changes m_mostTries m_tried m_settled m_found m_isCovered m_covered m_toldMany m_there m_now x9 x10 m_predicates m_numbers m_puts m_codes m_weights m_sets m_picks m_classes m_steps m_told) H := hP
              have hD : va_D A (wX m_a m_there_a m_now_a m_kinds_a m_targets_a m_predicates_a m_numbers_a m_puts_a m_codes_a m_weights_a m_sets_a m_picks_a m_classes_a m_steps_a m_told_a cI cZ cB cC m_rules m_changes m_mostTries m_tried m_settled m_found m_isCovered m_covered m_toldMany m_there m_now x9 x10 m_predicates m_numbers m_puts m_codes m_weights m_sets m_picks m_classes m_steps m_told) := hD
              refine lv_aload_n hx hb dK5_rule_96 rfl (lv_at hl 1 rfl) ?_
              refine va_get (D := D) (ci := 5) (v := .ref m_predicates_a) (C := RK5) (T := TK5) (N := 23) hx hb hts inK5 hown hK hP 0 rfl rfl 5 (by decide) (hts _ wdt3_191) (fun _ h9 => h9) rfl dK5_rule_97 ?_
              refine lv_aload_n hx hb dK5_rule_100 rfl (lv_at hl 1 rfl) ?_
              refine va_get (D := D) (ci := 5) (v := .int m_rules) (C := RK5) (T := TK5) (N := 23) hx hb hts inK5 hown hK hP 0 rfl rfl 2 (by decide) (hts _ wdt3_188) (fun _ h9 => h9) rfl dK5_rule_101 ?_
              refine lv_iload_n hx hb dK5_rule_104 rfl (lv_at hl 4 rfl) ?_
              obtain ⟨x11, ex11, hm⟩ := bd1_s hm
              obtain ⟨hix11, ex11⟩ := wrt_s ex11
              refine va_iast hx hb hK hP hD hS 5 0 rfl rfl hix11 dK5_rule_105 (fun H locs hP hD hS => ?_)
              rw [ex11] at hP hD
              have hP : va_P D vwCl (wX m_a m_there_a m_now_a m_kinds_a m_targets_a m_predicates_a m_numbers_a m_puts_a m_codes_a m_weights_a m_sets_a m_picks_a m_classes_a m_steps_a m_told_a cI cZ cB cC m_rules m_changes m_mostTries m_tried m_settled m_found m_isCovered m_covered m_toldMany m_there m_now x9 x10 x11 m_numbers m_puts m_codes m_weights m_sets m_picks m_classes m_steps m_told) H := hP
              have hD : va_D A (wX m_a m_there_a m_now_a m_kinds_a m_targets_a m_predicates_a m_numbers_a m_puts_a m_codes_a m_weights_a m_sets_a m_picks_a m_classes_a m_steps_a m_told_a cI cZ cB cC m_rules m_changes m_mostTries m_tried m_settled m_found m_isCovered m_covered m_toldMany m_there m_now x9 x10 x11 m_numbers m_puts m_codes m_weights m_sets m_picks m_classes m_steps m_told) := hD
              refine lv_aload_n hx hb dK5_rule_106 rfl (lv_at hl 1 rfl) ?_
              refine va_get (D := D) (ci := 5) (v := .ref m_numbers_a) (C := RK5) (T := TK5) (N := 23) hx hb hts inK5 hown hK hP 0 rfl rfl 6 (by decide) (hts _ wdt3_192) (fun _ h9 => h9) rfl dK5_rule_107 ?_
              refine lv_aload_n hx hb dK5_rule_110 rfl (lv_at hl 1 rfl) ?_
              refine va_get (D := D) (ci := 5) (v := .int m_rules) (C := RK5) (T := TK5) (N := 23) hx hb hts inK5 hown hK hP 0 rfl rfl 2 (by decide) (hts _ wdt3_188) (fun _ h9 => h9) rfl dK5_rule_111 ?_
              refine lv_iload hx hb dK5_rule_114 (lv_at hl 5 rfl) ?_
              obtain ⟨x12, ex12, hm⟩ := bd1_s hm
              obtain ⟨hix12, ex12⟩ := wrt_s ex12
              refine va_iast hx hb hK hP hD hS 6 0 rfl rfl hix12 dK5_rule_116 (fun H locs hP hD hS => ?_)
              rw [ex12] at hP hD
              have hP : va_P D vwCl (wX m_a m_there_a m_now_a m_kinds_a m_targets_a m_predicates_a m_numbers_a m_puts_a m_codes_a m_weights_a m_sets_a m_picks_a m_classes_a m_steps_a m_told_a cI cZ cB cC m_rules m_changes m_mostTries m_tried m_settled m_found m_isCovered m_covered m_toldMany m_there m_now x9 x10 x11 x12 m_puts m_codes m_weights m_sets m_picks m_classes m_steps m_told) H := hP
              have hD : va_D A (wX m_a m_there_a m_now_a m_kinds_a m_targets_a m_predicates_a m_numbers_a m_puts_a m_codes_a m_weights_a m_sets_a m_picks_a m_classes_a m_steps_a m_told_a cI cZ cB cC m_rules m_changes m_mostTries m_tried m_settled m_found m_isCovered m_covered m_toldMany m_there m_now x9 x10 x11 x12 m_puts m_codes m_weights m_sets m_picks m_classes m_steps m_told) := hD
              refine lv_aload_n hx hb dK5_rule_117 rfl (lv_at hl 1 rfl) ?_
              refine lv_dup hx hb dK5_rule_118 rfl ?_
              refine va_get (D := D) (ci := 5) (v := .int m_rules) (C := RK5) (T := TK5) (N := 23) hx hb hts inK5 hown hK hP 0 rfl rfl 2 (by decide) (hts _ wdt3_188) (fun _ h9 => h9) rfl dK5_rule_119 ?_
              refine lv_iconst (v := 1) hx hb dK5_rule_122 (by decide) ?_
              refine lv_iadd hx hb dK5_rule_123 ?_
              obtain ⟨x13, ex13, hm⟩ := bd1_s hm
              refine topi (Option.some.inj ex13) ?_
              refine va_put (D := D) (ci := 5) (v := .int x13) (ty := .int) (C := RK5) (T := TK5) (N := 23) hx hb hts inK5 tyK5 tyK5_ok nmK5 hown hK hP hD hS 0 rfl rfl 2 (by decide) (hts _ wdt3_188) (fun _ h9 => h9) rfl (by decide +kernel) rfl rfl (Nat.le_of_ble_eq_true rfl) dK5_rule_124 (fun H locs hP hD hS => ?_)
              have hP : va_P D vwCl (wX m_a m_there_a m_now_a m_kinds_a m_targets_a m_predicates_a m_numbers_a m_puts_a m_codes_a m_weights_a m_sets_a m_picks_a m_classes_a m_steps_a m_told_a cI cZ cB cC x13 m_changes m_mostTries m_tried m_settled m_found m_isCovered m_covered m_toldMany m_there m_now x9 x10 x11 x12 m_puts m_codes m_weights m_sets m_picks m_classes m_steps m_told) H := hP
              have hD : va_D A (wX m_a m_there_a m_now_a m_kinds_a m_targets_a m_predicates_a m_numbers_a m_puts_a m_codes_a m_weights_a m_sets_a m_picks_a m_classes_a m_steps_a m_told_a cI cZ cB cC x13 m_changes m_mostTries m_tried m_settled m_found m_isCovered m_covered m_toldMany m_there m_now x9 x10 x11 x12 m_puts m_codes m_weights m_sets m_picks m_classes m_steps m_told) := hD
              refine lv_aload_n hx hb dK5_rule_127 rfl (lv_at hl 1 rfl) ?_
              refine va_get (D := D) (ci := 5) (v := .int x13) (C := RK5) (T := TK5) (N := 23) hx hb hts inK5 hown hK hP 0 rfl rfl 2 (by decide) (hts _ wdt3_188) (fun _ h9 => h9) rfl dK5_rule_128 ?_
              refine lv_iconst (v := 1) hx hb dK5_rule_131 (by decide) ?_
              refine lv_isub hx hb dK5_rule_132 ?_
              replace hm := Option.some.inj hm
              simp only [Prod.mk.injEq] at hm
              obtain ⟨rfl, rfl, rfl, rfl, rfl, rfl⟩ := hm
              exact k_reti hx hb hr hlocks hP hD hS dK5_rule_133
            · replace hm := ift hm hc
              refine lv_bipush (v := (-3)) hx hb dK5_rule_73 (by decide) ?_
              replace hm := Option.some.inj hm
              simp only [Prod.mk.injEq] at hm
              obtain ⟨rfl, rfl, rfl, rfl, rfl, rfl⟩ := hm
              exact k_reti hx hb hr hlocks hP hD hS dK5_rule_75
          · replace hm := ift hm hc
            refine lv_iconst (v := (-1)) hx hb dK5_rule_62 (by decide) ?_
            replace hm := Option.some.inj hm
            simp only [Prod.mk.injEq] at hm
            obtain ⟨rfl, rfl, rfl, rfl, rfl, rfl⟩ := hm
            exact k_reti hx hb hr hlocks hP hD hS dK5_rule_63
  refine lv_icmp_ge (tgt := 10) hx hb dK5_rule_2 (by decide) (fun hc => ?_) (fun hc => ?_)
  · replace hm := ift hm hc
    refine lv_iload_n hx hb dK5_rule_10 rfl (lv_at hl 1 rfl) ?_
    refine lv_iconst (v := 4) hx hb dK5_rule_11 (by decide) ?_
    refine lv_icmp_ge (tgt := 20) hx hb dK5_rule_12 (by decide) (fun hc => ?_) (fun hc => ?_)
    · replace hm := ift hm hc
      refine lv_iconst (v := 5) hx hb dK5_rule_20 (by decide) ?_
      exact jn21 5 _ _ _ hm hP hD hS (lv_sub hl [0, 1, 2, 3, 4] rfl)
    · replace hm := iff_ hm hc
      refine lv_bipush (v := 11) hx hb dK5_rule_15 (by decide) ?_
      refine lv_goto (tgt := 21) hx hb dK5_rule_17 (by decide) ?_
      exact jn21 11 _ _ _ hm hP hD hS (lv_sub hl [0, 1, 2, 3, 4] rfl)
  · replace hm := iff_ hm hc
    refine lv_bipush (v := 12) hx hb dK5_rule_5 (by decide) ?_
    refine lv_goto (tgt := 21) hx hb dK5_rule_7 (by decide) ?_
    exact jn21 12 _ _ _ hm hP hD hS (lv_sub hl [0, 1, 2, 3, 4] rfl)
def mK5_begin_A29 (m_nowx29 : Nat → Int32) : Option ((Nat → Int32)) :=
  some m_nowx29
def mK5_begin_B29 (m_changes : Int32) (m_puts : Nat → Int32) (m_codes : Nat → Int32) (v1 : Int32) (kx29 : (Nat → Int32) → (Option ((Nat → Int32)))) (rc29 : Int32 → (Nat → Int32) → (Option ((Nat → Int32)))) (i2l29 : Int32) (m_nowl29 : Nat → Int32) : Option ((Nat → Int32)) :=
  if m_changes ≤ i2l29 then
  (kx29 m_nowl29)
  else
  (if ((v1 >>> (i2l29 &&& 31)) &&& 1) = 1 then
    (bd1 (rd m_codes 12 i2l29) fun x2 => bd1 (rd m_puts 12 i2l29) fun x3 => bd1 (wrt m_nowl29 864 x2 (vp_nar .boolean x3)) fun x4 => bd1 (some (i2l29 + 1)) fun x5 => rc29 x5 x4)
    else
    (bd1 (some (i2l29 + 1)) fun x1 => rc29 x1 m_nowl29))
def mK5_begin_L29 (m_changes : Int32) (m_puts : Nat → Int32) (m_codes : Nat → Int32) (v1 : Int32) (kx29 : (Nat → Int32) → (Option ((Nat → Int32)))) : Nat → Int32 → (Nat → Int32) → (Option ((Nat → Int32)))
  | 0, _, _ => none
  | n + 1, i2l29, m_nowl29 => mK5_begin_B29 m_changes m_puts m_codes v1 kx29 (mK5_begin_L29 m_changes m_puts m_codes v1 kx29 n) i2l29 m_nowl29
def mK5_begin_A2 (m_changes : Int32) (m_puts : Nat → Int32) (m_codes : Nat → Int32) (v1 : Int32) (m_nowx2 : Nat → Int32) : Option ((Nat → Int32)) :=
  mK5_begin_L29 m_changes m_puts m_codes v1 (mK5_begin_A29) 5000 0 m_nowx2
def mK5_begin_B2 (m_there : Nat → Int32) (kx2 : (Nat → Int32) → (Option ((Nat → Int32)))) (rc2 : Int32 → (Nat → Int32) → (Option ((Nat → Int32)))) (i2l2 : Int32) (m_nowl2 : Nat → Int32) : Option ((Nat → Int32)) :=
  if 864 ≤ i2l2 then
  (kx2 m_nowl2)
  else
  (bd1 (rd m_there 864 i2l2) fun x6 => bd1 (wrt m_nowl2 864 i2l2 (vp_nar .boolean x6)) fun x7 => bd1 (some (i2l2 + 1)) fun x8 => rc2 x8 x7)
def mK5_begin_L2 (m_there : Nat → Int32) (kx2 : (Nat → Int32) → (Option ((Nat → Int32)))) : Nat → Int32 → (Nat → Int32) → (Option ((Nat → Int32)))
  | 0, _, _ => none
  | n + 1, i2l2, m_nowl2 => mK5_begin_B2 m_there kx2 (mK5_begin_L2 m_there kx2 n) i2l2 m_nowl2
def mK5_begin (m_changes : Int32) (m_there : Nat → Int32) (m_now : Nat → Int32) (m_puts : Nat → Int32) (m_codes : Nat → Int32) (v1 : Int32) : Option ((Nat → Int32)) :=
  mK5_begin_L2 m_there (mK5_begin_A2 m_changes m_puts m_codes v1) 5000 0 m_now
abbrev rmK5_begin : Room := { frames := 0, cells := 0, slots := 0, locals := 0 }
set_option maxHeartbeats 4000000 in
set_option maxRecDepth 100000 in
theorem kK5_begin (l : Launch) (D : va_G) (cI cZ cB cC : ClassId) (sz : Nat) (m_a : Nat) (m_there_a : Nat) (m_now_a : Nat) (m_kinds_a : Nat) (m_targets_a : Nat) (m_predicates_a : Nat) (m_numbers_a : Nat) (m_puts_a : Nat) (m_codes_a : Nat) (m_weights_a : Nat) (m_sets_a : Nat) (m_picks_a : Nat) (m_classes_a : Nat) (m_steps_a : Nat) (m_told_a : Nat) (m_rules : Int32) (m_changes : Int32) (m_mostTries : Int32) (m_tried : Int32) (m_settled : Int32) (m_found : Int32) (m_isCovered : Int32) (m_covered : Int32) (m_toldMany : Int32) (m_there : Nat → Int32) (m_now : Nat → Int32) (m_kinds : Nat → Int32) (m_targets : Nat → Int32) (m_predicates : Nat → Int32) (m_numbers : Nat → Int32) (m_puts : Nat → Int32) (m_codes : Nat → Int32) (m_weights : Nat → Int32) (m_sets : Nat → Int32) (m_picks : Nat → Int32) (m_classes : Nat → Int32) (m_steps : Nat → Int32) (m_told : Nat → Int32) (v1 : Int32) (m_now_r : Nat → Int32) (hm : mK5_begin m_changes m_there m_now m_puts m_codes v1 = some m_now_r) : Met l yK5_begin wsK5_begin rmK5_begin (va_Pc [.ref m_a, .int v1] (Pr D (tyL cI cZ cB cC) sz (wX m_a m_there_a m_now_a m_kinds_a m_targets_a m_predicates_a m_numbers_a m_puts_a m_codes_a m_weights_a m_sets_a m_picks_a m_classes_a m_steps_a m_told_a cI cZ cB cC m_rules m_changes m_mostTries m_tried m_settled m_found m_isCovered m_covered m_toldMany m_there m_now m_kinds m_targets m_predicates m_numbers m_puts m_codes m_weights m_sets m_picks m_classes m_steps m_told))) (QV D (va_A (wX m_a m_there_a m_now_a m_kinds_a m_targets_a m_predicates_a m_numbers_a m_puts_a m_codes_a m_weights_a m_sets_a m_picks_a m_classes_a m_steps_a m_told_a cI cZ cB cC m_rules m_changes m_mostTries m_tried m_settled m_found m_isCovered m_covered m_toldMany m_there m_now m_kinds m_targets m_predicates m_numbers m_puts m_codes m_weights m_sets m_picks m_classes m_steps m_told) sz) (wX m_a m_there_a m_now_a m_kinds_a m_targets_a m_predicates_a m_numbers_a m_puts_a m_codes_a m_weights_a m_sets_a m_picks_a m_classes_a m_steps_a m_told_a cI cZ cB cC m_rules m_changes m_mostTries m_tried m_settled m_found m_isCovered m_covered m_toldMany m_there m_now_r m_kinds m_targets m_predicates m_numbers m_puts m_codes m_weights m_sets m_picks m_classes m_steps m_told)) 0 0 (va_A (wX m_a m_there_a m_now_a m_kinds_a m_targets_a m_predicates_a m_numbers_a m_puts_a m_codes_a m_weights_a m_sets_a m_picks_a m_classes_a m_steps_a m_told_a cI cZ cB cC m_rules m_changes m_mostTries m_tried m_settled m_found m_isCovered m_covered m_toldMany m_there m_now m_kinds m_targets m_predicates m_numbers m_puts m_codes m_weights m_sets m_picks m_classes m_steps m_told) sz) := by
  refine Met.ofW (cc := cK5_begin) (maxL := 3) (ret := none) (by decide) rfl ?_
  intro p e s m args below meth c s₁ B hml hv
  obtain ⟨rfl, hsz, hP, hK, hD0, hN⟩ := hv
  have hx := B.exec
  have hb := B.bytes
  have hr := B.returns
  have hts := htsA (atoms_spec (ws := wsK5_begin) B.pre)
  have hown : s.vm.findClass RK5 = some m.cls := findClass_of_methodNamed B.named
  have hlocks := B.notSynchronized
  subst hsz
  have hD := hD0.self (sz := s.heap.size)
  generalize hAe : va_A (wX m_a m_there_a m_now_a m_kinds_a m_targets_a m_predicates_a m_numbers_a m_puts_a m_codes_a m_weights_a m_sets_a m_picks_a m_classes_a m_steps_a m_told_a cI cZ cB cC m_rules m_changes m_mostTries m_tried m_settled m_found m_isCovered m_covered m_toldMany m_there m_now m_kinds m_targets m_predicates m_numbers m_puts m_codes m_weights m_sets m_picks m_classes m_steps m_told) s.heap.size = A at hD ⊢
  have hA : ∀ q : Nat, s.heap.size ≤ q → A q := fun q h => by rw [← hAe]; exact Or.inr h
  refine kstart (A := A) hP (fun H hP hS => ?_)
  have hl := lv_entry ([.ref m_a, .int v1]) (n := 3) (Nat.le_of_ble_eq_true rfl)
  rw [lg_entry_eq]
  generalize (lg_sl ([.ref m_a, .int v1]) ++ List.replicate (3 - (lg_sl ([.ref m_a, .int v1])).length) Slot.unset).toArray = ls at hl ⊢
  have hl : lv_has ls 3 [(0, .ref m_a), (1, .int v1)] := hl
  unfold mK5_begin at hm
  refine lv_iconst (v := 0) hx hb dK5_begin_0 (by decide) ?_
  refine lv_istore_n (lv' := [(2, .int 0), (0, .ref m_a), (1, .int v1)]) hx hb dK5_begin_1 rfl hl (by decide) rfl (fun ls hl => ?_)
  have lx2 : ∀ (m_nowx2 : Nat → Int32) (H : Heap) (locs : List Loc) (ls : Array Slot), mK5_begin_A2 m_changes m_puts m_codes v1 m_nowx2 = some m_now_r → va_P D vwCl (wX m_a m_there_a m_now_a m_kinds_a m_targets_a m_predicates_a m_numbers_a m_puts_a m_codes_a m_weights_a m_sets_a m_picks_a m_classes_a m_steps_a m_told_a cI cZ cB cC m_rules m_changes m_mostTries m_tried m_settled m_found m_isCovered m_covered m_toldMany m_there m_nowx2 m_kinds m_targets m_predicates m_numbers m_puts m_codes m_weights m_sets m_picks m_classes m_steps m_told) H → va_D A (wX m_a m_there_a m_now_a m_kinds_a m_targets_a m_predicates_a m_numbers_a m_puts_a m_codes_a m_weights_a m_sets_a m_picks_a m_classes_a m_steps_a m_told_a cI cZ cB cC m_rules m_changes m_mostTries m_tried m_settled m_found m_isCovered m_covered m_toldMany m_there m_nowx2 m_kinds m_targets m_predicates m_numbers m_puts m_codes m_weights m_sets m_picks m_classes m_steps m_told) → va_S A s.heap H locs → lv_has ls 3 [(0, .ref m_a), (1, .int v1)] → W p l e (headSpec wsK5_begin rmK5_begin).room s m ([.ref m_a, .int v1] : List Value).toArray below meth c H locs 0 0 (MQ below (QV D A (wX m_a m_there_a m_now_a m_kinds_a m_targets_a m_predicates_a m_numbers_a m_puts_a m_codes_a m_weights_a m_sets_a m_picks_a m_classes_a m_steps_a m_told_a cI cZ cB cC m_rules m_changes m_mostTries m_tried m_settled m_found m_isCovered m_covered m_toldMany m_there m_now_r m_kinds m_targets m_predicates m_numbers m_puts m_codes m_weights m_sets m_picks m_classes m_steps m_told)) ([.ref m_a, .int v1] : List Value).toArray s 0 0 A) (F0 m 27 ls []) := by
    intro m_nowx2 H locs ls hm hP hD hS hl
    unfold mK5_begin_A2 at hm
    refine lv_iconst (v := 0) hx hb dK5_begin_27 (by decide) ?_
    refine lv_istore_n (lv' := [(2, .int 0), (0, .ref m_a), (1, .int v1)]) hx hb dK5_begin_28 rfl hl (by decide) rfl (fun ls hl => ?_)
    have lx29 : ∀ (m_nowx29 : Nat → Int32) (H : Heap) (locs : List Loc) (ls : Array Slot), mK5_begin_A29 m_nowx29 = some m_now_r → va_P D vwCl (wX m_a m_there_a m_now_a m_kinds_a m_targets_a m_predicates_a m_numbers_a m_puts_a m_codes_a m_weights_a m_sets_a m_picks_a m_classes_a m_steps_a m_told_a cI cZ cB cC m_rules m_changes m_mostTries m_tried m_settled m_found m_isCovered m_covered m_toldMany m_there m_nowx29 m_kinds m_targets m_predicates m_numbers m_puts m_codes m_weights m_sets m_picks m_classes m_steps m_told) H → va_D A (wX m_a m_there_a m_now_a m_kinds_a m_targets_a m_predicates_a m_numbers_a m_puts_a m_codes_a m_weights_a m_sets_a m_picks_a m_classes_a m_steps_a m_told_a cI cZ cB cC m_rules m_changes m_mostTries m_tried m_settled m_found m_isCovered m_covered m_toldMany m_there m_nowx29 m_kinds m_targets m_predicates m_numbers m_puts m_codes m_weights m_sets m_picks m_classes m_steps m_told) → va_S A s.heap H locs → lv_has ls 3 [] → W p l e (headSpec wsK5_begin rmK5_begin).room s m ([.ref m_a, .int v1] : List Value).toArray below meth c H locs 0 0 (MQ below (QV D A (wX m_a m_there_a m_now_a m_kinds_a m_targets_a m_predicates_a m_numbers_a m_puts_a m_codes_a m_weights_a m_sets_a m_picks_a m_classes_a m_steps_a m_told_a cI cZ cB cC m_rules m_changes m_mostTries m_tried m_settled m_found m_isCovered m_covered m_toldMany m_there m_now_r m_kinds m_targets m_predicates m_numbers m_puts m_codes m_weights m_sets m_picks m_classes m_steps m_told)) ([.ref m_a, .int v1] : List Value).toArray s 0 0 A) (F0 m 69 ls []) := by
      intro m_nowx29 H locs ls hm hP hD hS hl
      unfold mK5_begin_A29 at hm
      replace hm := Option.some.inj hm
      subst hm
      exact k_retv hx hb hr hlocks hP hD hS dK5_begin_69
    have lp29 : ∀ (n29 : Nat) (i2l29 : Int32) (m_nowl29 : Nat → Int32) (H : Heap) (locs : List Loc) (ls : Array Slot), mK5_begin_L29 m_changes m_puts m_codes v1 (mK5_begin_A29) n29 i2l29 m_nowl29 = some m_now_r → va_P D vwCl (wX m_a m_there_a m_now_a m_kinds_a m_targets_a m_predicates_a m_numbers_a m_puts_a m_codes_a m_weights_a m_sets_a m_picks_a m_classes_a m_steps_a m_told_a cI cZ cB cC m_rules m_changes m_mostTries m_tried m_settled m_found m_isCovered m_covered m_toldMany m_there m_nowl29 m_kinds m_targets m_predicates m_numbers m_puts m_codes m_weights m_sets m_picks m_classes m_steps m_told) H → va_D A (wX m_a m_there_a m_now_a m_kinds_a m_targets_a m_predicates_a m_numbers_a m_puts_a m_codes_a m_weights_a m_sets_a m_picks_a m_classes_a m_steps_a m_told_a cI cZ cB cC m_rules m_changes m_mostTries m_tried m_settled m_found m_isCovered m_covered m_toldMany m_there m_nowl29 m_kinds m_targets m_predicates m_numbers m_puts m_codes m_weights m_sets m_picks m_classes m_steps m_told) → va_S A s.heap H locs → lv_has ls 3 [(2, .int i2l29), (0, .ref m_a), (1, .int v1)] → W p l e (headSpec wsK5_begin rmK5_begin).room s m ([.ref m_a, .int v1] : List Value).toArray below meth c H locs 0 0 (MQ below (QV D A (wX m_a m_there_a m_now_a m_kinds_a m_targets_a m_predicates_a m_numbers_a m_puts_a m_codes_a m_weights_a m_sets_a m_picks_a m_classes_a m_steps_a m_told_a cI cZ cB cC m_rules m_changes m_mostTries m_tried m_settled m_found m_isCovered m_covered m_toldMany m_there m_now_r m_kinds m_targets m_predicates m_numbers m_puts m_codes m_weights m_sets m_picks m_classes m_steps m_told)) ([.ref m_a, .int v1] : List Value).toArray s 0 0 A) (F0 m 29 ls []) := by
      intro n29
      induction n29 with
      | zero => intro i2l29 m_nowl29 H locs ls hm; exact nomatch (show none = _ from hm)
      | succ n29 ih29 =>
        intro i2l29 m_nowl29 H locs ls hm hP hD hS hl
        replace hm : mK5_begin_B29 m_changes m_puts m_codes v1 (mK5_begin_A29) (mK5_begin_L29 m_changes m_puts m_codes v1 (mK5_begin_A29) n29) i2l29 m_nowl29 = some m_now_r := hm
        unfold mK5_begin_B29 at hm
        refine lv_iload_n hx hb dK5_begin_29 rfl (lv_at hl 0 rfl) ?_
        refine lv_aload_n hx hb dK5_begin_30 rfl (lv_at hl 1 rfl) ?_
        refine va_get (D := D) (ci := 5) (v := .int m_changes) (C := RK5) (T := TK5) (N := 23) hx hb hts inK5 hown hK hP 0 rfl rfl 7 (by decide) (hts _ wdt3_193) (fun _ h9 => h9) rfl dK5_begin_31 ?_
        refine lv_icmp_ge (tgt := 69) hx hb dK5_begin_34 (by decide) (fun hc => ?_) (fun hc => ?_)
        · replace hm := ift hm hc
          exact lx29 m_nowl29 _ _ _ hm hP hD hS (lv_sub hl [] rfl)
        · replace hm := iff_ hm hc
          refine lv_iload_n hx hb dK5_begin_37 rfl (lv_at hl 2 rfl) ?_
          refine lv_iload_n hx hb dK5_begin_38 rfl (lv_at hl 0 rfl) ?_
          refine lv_ishr hx hb dK5_begin_39 ?_
          refine lv_iconst (v := 1) hx hb dK5_begin_40 (by decide) ?_
          refine lv_iand hx hb dK5_begin_41 ?_
          refine lv_iconst (v := 1) hx hb dK5_begin_42 (by decide) ?_
          refine lv_icmp_ne (tgt := 63) hx hb dK5_begin_43 (by decide) (fun hc => ?_) (fun hc => ?_)
          · replace hm := iff_ hm hc
            obtain ⟨x1, ex1, hm⟩ := bd1_s hm
            refine lv_iinc (v := x1) (lv' := [(2, .int x1), (0, .ref m_a), (1, .int v1)]) hx hb dK5_begin_63 hl (k := 0) rfl (by rw [← Option.some.inj ex1]; rfl) (by decide) rfl (fun ls hl => ?_)
            refine lv_goto (tgt := 29) hx hb dK5_begin_66 (by decide) ?_
            exact ih29 x1 m_nowl29 _ _ _ hm hP hD hS (lv_sub hl [0, 1, 2] rfl)
          · replace hm := ift hm hc
            refine lv_aload_n hx hb dK5_begin_46 rfl (lv_at hl 1 rfl) ?_
            refine va_get (D := D) (ci := 5) (v := .ref m_now_a) (C := RK5) (T := TK5) (N := 23) hx hb hts inK5 hown hK hP 0 rfl rfl 1 (by decide) (hts _ wdt3_187) (fun _ h9 => h9) rfl dK5_begin_47 ?_
            refine lv_aload_n hx hb dK5_begin_50 rfl (lv_at hl 1 rfl) ?_
            refine va_get (D := D) (ci := 5) (v := .ref m_codes_a) (C := RK5) (T := TK5) (N := 23) hx hb hts inK5 hown hK hP 0 rfl rfl 9 (by decide) (hts _ wdt3_195) (fun _ h9 => h9) rfl dK5_begin_51 ?_
            refine lv_iload_n hx hb dK5_begin_54 rfl (lv_at hl 0 rfl) ?_
            obtain ⟨x2, ex2, hm⟩ := bd1_s hm
            obtain ⟨hix2, ex2⟩ := rd_s ex2
            refine va_iald hx hb hK hP 8 0 rfl rfl hix2 dK5_begin_55 ?_
            refine topi ex2 ?_
            refine lv_aload_n hx hb dK5_begin_56 rfl (lv_at hl 1 rfl) ?_
            refine va_get (D := D) (ci := 5) (v := .ref m_puts_a) (C := RK5) (T := TK5) (N := 23) hx hb hts inK5 hown hK hP 0 rfl rfl 8 (by decide) (hts _ wdt3_194) (fun _ h9 => h9) rfl dK5_begin_57 ?_
            refine lv_iload_n hx hb dK5_begin_60 rfl (lv_at hl 0 rfl) ?_
            obtain ⟨x3, ex3, hm⟩ := bd1_s hm
            obtain ⟨hix3, ex3⟩ := rd_s ex3
            refine va_zald hx hb hK hP 7 1 rfl rfl hix3 dK5_begin_61 ?_
            refine topi ex3 ?_
            obtain ⟨x4, ex4, hm⟩ := bd1_s hm
            obtain ⟨hix4, ex4⟩ := wrt_s ex4
            refine va_zast hx hb hK hP hD hS 2 1 rfl rfl hix4 dK5_begin_62 (fun H locs hP hD hS => ?_)
            rw [ex4] at hP hD
            have hP : va_P D vwCl (wX m_a m_there_a m_now_a m_kinds_a m_targets_a m_predicates_a m_numbers_a m_puts_a m_codes_a m_weights_a m_sets_a m_picks_a m_classes_a m_steps_a m_told_a cI cZ cB cC m_rules m_changes m_mostTries m_tried m_settled m_found m_isCovered m_covered m_toldMany m_there x4 m_kinds m_targets m_predicates m_numbers m_puts m_codes m_weights m_sets m_picks m_classes m_steps m_told) H := hP
            have hD : va_D A (wX m_a m_there_a m_now_a m_kinds_a m_targets_a m_predicates_a m_numbers_a m_puts_a m_codes_a m_weights_a m_sets_a m_picks_a m_classes_a m_steps_a m_told_a cI cZ cB cC m_rules m_changes m_mostTries m_tried m_settled m_found m_isCovered m_covered m_toldMany m_there x4 m_kinds m_targets m_predicates m_numbers m_puts m_codes m_weights m_sets m_picks m_classes m_steps m_told) := hD
            obtain ⟨x5, ex5, hm⟩ := bd1_s hm
            refine lv_iinc (v := x5) (lv' := [(2, .int x5), (0, .ref m_a), (1, .int v1)]) hx hb dK5_begin_63 hl (k := 0) rfl (by rw [← Option.some.inj ex5]; rfl) (by decide) rfl (fun ls hl => ?_)
            refine lv_goto (tgt := 29) hx hb dK5_begin_66 (by decide) ?_
            exact ih29 x5 x4 _ _ _ hm hP hD hS (lv_sub hl [0, 1, 2] rfl)
    exact lp29 5000 0 m_nowx2 _ _ _ hm hP hD hS (lv_sub hl [0, 1, 2] rfl)
  have lp2 : ∀ (n2 : Nat) (i2l2 : Int32) (m_nowl2 : Nat → Int32) (H : Heap) (locs : List Loc) (ls : Array Slot), mK5_begin_L2 m_there (mK5_begin_A2 m_changes m_puts m_codes v1) n2 i2l2 m_nowl2 = some m_now_r → va_P D vwCl (wX m_a m_there_a m_now_a m_kinds_a m_targets_a m_predicates_a m_numbers_a m_puts_a m_codes_a m_weights_a m_sets_a m_picks_a m_classes_a m_steps_a m_told_a cI cZ cB cC m_rules m_changes m_mostTries m_tried m_settled m_found m_isCovered m_covered m_toldMany m_there m_nowl2 m_kinds m_targets m_predicates m_numbers m_puts m_codes m_weights m_sets m_picks m_classes m_steps m_told) H → va_D A (wX m_a m_there_a m_now_a m_kinds_a m_targets_a m_predicates_a m_numbers_a m_puts_a m_codes_a m_weights_a m_sets_a m_picks_a m_classes_a m_steps_a m_told_a cI cZ cB cC m_rules m_changes m_mostTries m_tried m_settled m_found m_isCovered m_covered m_toldMany m_there m_nowl2 m_kinds m_targets m_predicates m_numbers m_puts m_codes m_weights m_sets m_picks m_classes m_steps m_told) → va_S A s.heap H locs → lv_has ls 3 [(2, .int i2l2), (0, .ref m_a), (1, .int v1)] → W p l e (headSpec wsK5_begin rmK5_begin).room s m ([.ref m_a, .int v1] : List Value).toArray below meth c H locs 0 0 (MQ below (QV D A (wX m_a m_there_a m_now_a m_kinds_a m_targets_a m_predicates_a m_numbers_a m_puts_a m_codes_a m_weights_a m_sets_a m_picks_a m_classes_a m_steps_a m_told_a cI cZ cB cC m_rules m_changes m_mostTries m_tried m_settled m_found m_isCovered m_covered m_toldMany m_there m_now_r m_kinds m_targets m_predicates m_numbers m_puts m_codes m_weights m_sets m_picks m_classes m_steps m_told)) ([.ref m_a, .int v1] : List Value).toArray s 0 0 A) (F0 m 2 ls []) := by
    intro n2
    induction n2 with
    | zero => intro i2l2 m_nowl2 H locs ls hm; exact nomatch (show none = _ from hm)
    | succ n2 ih2 =>
      intro i2l2 m_nowl2 H locs ls hm hP hD hS hl
      replace hm : mK5_begin_B2 m_there (mK5_begin_A2 m_changes m_puts m_codes v1) (mK5_begin_L2 m_there (mK5_begin_A2 m_changes m_puts m_codes v1) n2) i2l2 m_nowl2 = some m_now_r := hm
      unfold mK5_begin_B2 at hm
      refine lv_iload_n hx hb dK5_begin_2 rfl (lv_at hl 0 rfl) ?_
      refine lv_sipush (v := 864) hx hb dK5_begin_3 (by decide) ?_
      refine lv_icmp_ge (tgt := 27) hx hb dK5_begin_6 (by decide) (fun hc => ?_) (fun hc => ?_)
      · replace hm := ift hm hc
        exact lx2 m_nowl2 _ _ _ hm hP hD hS (lv_sub hl [1, 2] rfl)
      · replace hm := iff_ hm hc
        refine lv_aload_n hx hb dK5_begin_9 rfl (lv_at hl 1 rfl) ?_
        refine va_get (D := D) (ci := 5) (v := .ref m_now_a) (C := RK5) (T := TK5) (N := 23) hx hb hts inK5 hown hK hP 0 rfl rfl 1 (by decide) (hts _ wdt3_187) (fun _ h9 => h9) rfl dK5_begin_10 ?_
        refine lv_iload_n hx hb dK5_begin_13 rfl (lv_at hl 0 rfl) ?_
        refine lv_aload_n hx hb dK5_begin_14 rfl (lv_at hl 1 rfl) ?_
        refine va_get (D := D) (ci := 5) (v := .ref m_there_a) (C := RK5) (T := TK5) (N := 23) hx hb hts inK5 hown hK hP 0 rfl rfl 0 (by decide) (hts _ wdt3_186) (fun _ h9 => h9) rfl dK5_begin_15 ?_
        refine lv_iload_n hx hb dK5_begin_18 rfl (lv_at hl 0 rfl) ?_
        obtain ⟨x6, ex6, hm⟩ := bd1_s hm
        obtain ⟨hix6, ex6⟩ := rd_s ex6
        refine va_zald hx hb hK hP 1 1 rfl rfl hix6 dK5_begin_19 ?_
        refine topi ex6 ?_
        obtain ⟨x7, ex7, hm⟩ := bd1_s hm
        obtain ⟨hix7, ex7⟩ := wrt_s ex7
        refine va_zast hx hb hK hP hD hS 2 1 rfl rfl hix7 dK5_begin_20 (fun H locs hP hD hS => ?_)
        rw [ex7] at hP hD
        have hP : va_P D vwCl (wX m_a m_there_a m_now_a m_kinds_a m_targets_a m_predicates_a m_numbers_a m_puts_a m_codes_a m_weights_a m_sets_a m_picks_a m_classes_a m_steps_a m_told_a cI cZ cB cC m_rules m_changes m_mostTries m_tried m_settled m_found m_isCovered m_covered m_toldMany m_there x7 m_kinds m_targets m_predicates m_numbers m_puts m_codes m_weights m_sets m_picks m_classes m_steps m_told) H := hP
        have hD : va_D A (wX m_a m_there_a m_now_a m_kinds_a m_targets_a m_predicates_a m_numbers_a m_puts_a m_codes_a m_weights_a m_sets_a m_picks_a m_classes_a m_steps_a m_told_a cI cZ cB cC m_rules m_changes m_mostTries m_tried m_settled m_found m_isCovered m_covered m_toldMany m_there x7 m_kinds m_targets m_predicates m_numbers m_puts m_codes m_weights m_sets m_picks m_classes m_steps m_told) := hD
        obtain ⟨x8, ex8, hm⟩ := bd1_s hm
        refine lv_iinc (v := x8) (lv' := [(2, .int x8), (0, .ref m_a), (1, .int v1)]) hx hb dK5_begin_21 hl (k := 0) rfl (by rw [← Option.some.inj ex8]; rfl) (by decide) rfl (fun ls hl => ?_)
        refine lv_goto (tgt := 2) hx hb dK5_begin_24 (by decide) ?_
        exact ih2 x8 x7 _ _ _ hm hP hD hS (lv_sub hl [0, 1, 2] rfl)
  exact lp2 5000 0 m_now _ _ _ hm hP hD hS (lv_sub hl [0, 1, 2] rfl)
def mK5_isOfNow_A33 (v2 : Int32) (m_classesx33 : Nat → Int32) : Option (Int32 × (Nat → Int32)) :=
  bd1 (rd m_classesx33 12 v2) fun x1 => bd1 (bz x1) fun x2 => some (x2, m_classesx33)
def mK5_isOfNow_A42 (i3l33 : Int32) (rc33 : Int32 → (Nat → Int32) → (Option (Int32 × (Nat → Int32)))) (m_classesx42 : Nat → Int32) : Option (Int32 × (Nat → Int32)) :=
  bd1 (some (i3l33 + 1)) fun x3 => rc33 x3 m_classesx42
def mK5_isOfNow_A52 (i4l42 : Int32) (rc42 : Int32 → (Nat → Int32) → (Option (Int32 × (Nat → Int32)))) (m_classesx52 : Nat → Int32) : Option (Int32 × (Nat → Int32)) :=
  bd1 (some (i4l42 + 1)) fun x4 => rc42 x4 m_classesx52
def mK5_isOfNow_B52 (m_now : Nat → Int32) (i4l42 : Int32) (kx52 : (Nat → Int32) → (Option (Int32 × (Nat → Int32)))) (rc52 : Int32 → (Nat → Int32) → (Option (Int32 × (Nat → Int32)))) (i5l52 : Int32) (m_classesl52 : Nat → Int32) : Option (Int32 × (Nat → Int32)) :=
  if 12 ≤ i5l52 then
  (kx52 m_classesl52)
  else
  (bd1 (rd m_classesl52 12 i4l42) fun x5 => if x5 = 0 then
    (kx52 m_classesl52)
    else
    (bd1 (rd m_classesl52 12 i5l52) fun x6 => if x6 = 0 then
      (bd1 (mK5_codeOf i4l42 1 i5l52) fun x9 => bd1 (rd m_now 864 x9) fun x11 => if x11 = 0 then
        (bd1 (wrt m_classesl52 12 i5l52 (vp_nar .boolean 0)) fun x12 => bd1 (some (i5l52 + 1)) fun x13 => rc52 x13 x12)
        else
        (bd1 (wrt m_classesl52 12 i5l52 (vp_nar .boolean 1)) fun x14 => bd1 (some (i5l52 + 1)) fun x15 => rc52 x15 x14))
      else
      (bd1 (wrt m_classesl52 12 i5l52 (vp_nar .boolean 1)) fun x7 => bd1 (some (i5l52 + 1)) fun x8 => rc52 x8 x7)))
def mK5_isOfNow_L52 (m_now : Nat → Int32) (i4l42 : Int32) (kx52 : (Nat → Int32) → (Option (Int32 × (Nat → Int32)))) : Nat → Int32 → (Nat → Int32) → (Option (Int32 × (Nat → Int32)))
  | 0, _, _ => none
  | n + 1, i5l52, m_classesl52 => mK5_isOfNow_B52 m_now i4l42 kx52 (mK5_isOfNow_L52 m_now i4l42 kx52 n) i5l52 m_classesl52
def mK5_isOfNow_B42 (m_now : Nat → Int32) (kx42 : (Nat → Int32) → (Option (Int32 × (Nat → Int32)))) (rc42 : Int32 → (Nat → Int32) → (Option (Int32 × (Nat → Int32)))) (i4l42 : Int32) (m_classesl42 : Nat → Int32) : Option (Int32 × (Nat → Int32)) :=
  if 12 ≤ i4l42 then
  (kx42 m_classesl42)
  else
  (mK5_isOfNow_L52 m_now i4l42 (mK5_isOfNow_A52 i4l42 rc42) 5000 0 m_classesl42)
def mK5_isOfNow_L42 (m_now : Nat → Int32) (kx42 : (Nat → Int32) → (Option (Int32 × (Nat → Int32)))) : Nat → Int32 → (Nat → Int32) → (Option (Int32 × (Nat → Int32)))
  | 0, _, _ => none
  | n + 1, i4l42, m_classesl42 => mK5_isOfNow_B42 m_now kx42 (mK5_isOfNow_L42 m_now kx42 n) i4l42 m_classesl42
def mK5_isOfNow_B33 (m_now : Nat → Int32) (kx33 : (Nat → Int32) → (Option (Int32 × (Nat → Int32)))) (rc33 : Int32 → (Nat → Int32) → (Option (Int32 × (Nat → Int32)))) (i3l33 : Int32) (m_classesl33 : Nat → Int32) : Option (Int32 × (Nat → Int32)) :=
  if 12 ≤ i3l33 then
  (kx33 m_classesl33)
  else
  (mK5_isOfNow_L42 m_now (mK5_isOfNow_A42 i3l33 rc33) 5000 0 m_classesl33)
def mK5_isOfNow_L33 (m_now : Nat → Int32) (kx33 : (Nat → Int32) → (Option (Int32 × (Nat → Int32)))) : Nat → Int32 → (Nat → Int32) → (Option (Int32 × (Nat → Int32)))
  | 0, _, _ => none
  | n + 1, i3l33, m_classesl33 => mK5_isOfNow_B33 m_now kx33 (mK5_isOfNow_L33 m_now kx33 n) i3l33 m_classesl33
def mK5_isOfNow_A2 (m_now : Nat → Int32) (v2 : Int32) (m_classesx2 : Nat → Int32) : Option (Int32 × (Nat → Int32)) :=
  mK5_isOfNow_L33 m_now (mK5_isOfNow_A33 v2) 5000 0 m_classesx2
def mK5_isOfNow_B2 (m_now : Nat → Int32) (v1 : Int32) (kx2 : (Nat → Int32) → (Option (Int32 × (Nat → Int32)))) (rc2 : Int32 → (Nat → Int32) → (Option (Int32 × (Nat → Int32)))) (i3l2 : Int32) (m_classesl2 : Nat → Int32) : Option (Int32 × (Nat → Int32)) :=
  if 12 ≤ i3l2 then
  (kx2 m_classesl2)
  else
  (bd1 (mK5_codeOf v1 0 i3l2) fun x16 => bd1 (rd m_now 864 x16) fun x18 => bd1 (wrt m_classesl2 12 i3l2 (vp_nar .boolean x18)) fun x19 => bd1 (some (i3l2 + 1)) fun x20 => rc2 x20 x19)
def mK5_isOfNow_L2 (m_now : Nat → Int32) (v1 : Int32) (kx2 : (Nat → Int32) → (Option (Int32 × (Nat → Int32)))) : Nat → Int32 → (Nat → Int32) → (Option (Int32 × (Nat → Int32)))
  | 0, _, _ => none
  | n + 1, i3l2, m_classesl2 => mK5_isOfNow_B2 m_now v1 kx2 (mK5_isOfNow_L2 m_now v1 kx2 n) i3l2 m_classesl2
def mK5_isOfNow (m_now : Nat → Int32) (m_classes : Nat → Int32) (v1 : Int32) (v2 : Int32) : Option (Int32 × (Nat → Int32)) :=
  mK5_isOfNow_L2 m_now v1 (mK5_isOfNow_A2 m_now v2) 5000 0 m_classes
abbrev rmK5_isOfNow : Room := { frames := 1, cells := 0, slots := 0, locals := 22 }
set_option maxHeartbeats 4000000 in
set_option maxRecDepth 100000 in
theorem kK5_isOfNow (l : Launch) (D : va_G) (cI cZ cB cC : ClassId) (sz : Nat) (m_a : Nat) (m_there_a : Nat) (m_now_a : Nat) (m_kinds_a : Nat) (m_targets_a : Nat) (m_predicates_a : Nat) (m_numbers_a : Nat) (m_puts_a : Nat) (m_codes_a : Nat) (m_weights_a : Nat) (m_sets_a : Nat) (m_picks_a : Nat) (m_classes_a : Nat) (m_steps_a : Nat) (m_told_a : Nat) (m_rules : Int32) (m_changes : Int32) (m_mostTries : Int32) (m_tried : Int32) (m_settled : Int32) (m_found : Int32) (m_isCovered : Int32) (m_covered : Int32) (m_toldMany : Int32) (m_there : Nat → Int32) (m_now : Nat → Int32) (m_kinds : Nat → Int32) (m_targets : Nat → Int32) (m_predicates : Nat → Int32) (m_numbers : Nat → Int32) (m_puts : Nat → Int32) (m_codes : Nat → Int32) (m_weights : Nat → Int32) (m_sets : Nat → Int32) (m_picks : Nat → Int32) (m_classes : Nat → Int32) (m_steps : Nat → Int32) (m_told : Nat → Int32) (v1 : Int32) (v2 : Int32) (r0 : Int32) (m_classes_r : Nat → Int32) (hm : mK5_isOfNow m_now m_classes v1 v2 = some (r0, m_classes_r)) : Met l yK5_isOfNow wsK5_isOfNow rmK5_isOfNow (va_Pc [.ref m_a, .int v1, .int v2] (Pr D (tyL cI cZ cB cC) sz (wX m_a m_there_a m_now_a m_kinds_a m_targets_a m_predicates_a m_numbers_a m_puts_a m_codes_a m_weights_a m_sets_a m_picks_a m_classes_a m_steps_a m_told_a cI cZ cB cC m_rules m_changes m_mostTries m_tried m_settled m_found m_isCovered m_covered m_toldMany m_there m_now m_kinds m_targets m_predicates m_numbers m_puts m_codes m_weights m_sets m_picks m_classes m_steps m_told))) (QI D (va_A (wX m_a m_there_a m_now_a m_kinds_a m_targets_a m_predicates_a m_numbers_a m_puts_a m_codes_a m_weights_a m_sets_a m_picks_a m_classes_a m_steps_a m_told_a cI cZ cB cC m_rules m_changes m_mostTries m_tried m_settled m_found m_isCovered m_covered m_toldMany m_there m_now m_kinds m_targets m_predicates m_numbers m_puts m_codes m_weights m_sets m_picks m_classes m_steps m_told) sz) r0 (wX m_a m_there_a m_now_a m_kinds_a m_targets_a m_predicates_a m_numbers_a m_puts_a m_codes_a m_weights_a m_sets_a m_picks_a m_classes_a m_steps_a m_told_a cI cZ cB cC m_rules m_changes m_mostTries m_tried m_settled m_found m_isCovered m_covered m_toldMany m_there m_now m_kinds m_targets m_predicates m_numbers m_puts m_codes m_weights m_sets m_picks m_classes_r m_steps m_told)) 0 0 (va_A (wX m_a m_there_a m_now_a m_kinds_a m_targets_a m_predicates_a m_numbers_a m_puts_a m_codes_a m_weights_a m_sets_a m_picks_a m_classes_a m_steps_a m_told_a cI cZ cB cC m_rules m_changes m_mostTries m_tried m_settled m_found m_isCovered m_covered m_toldMany m_there m_now m_kinds m_targets m_predicates m_numbers m_puts m_codes m_weights m_sets m_picks m_classes m_steps m_told) sz) := by
  refine Met.ofW (cc := cK5_isOfNow) (maxL := 6) (ret := (some .boolean)) (by decide) rfl ?_
  intro p e s m args below meth c s₁ B hml hv
  obtain ⟨rfl, hsz, hP, hK, hD0, hN⟩ := hv
  have hx := B.exec
  have hb := B.bytes
  have hr := B.returns
  have hts := htsA (atoms_spec (ws := wsK5_isOfNow) B.pre)
  have hown : s.vm.findClass RK5 = some m.cls := findClass_of_methodNamed B.named
  have hlocks := B.notSynchronized
  subst hsz
  have hD := hD0.self (sz := s.heap.size)
  generalize hAe : va_A (wX m_a m_there_a m_now_a m_kinds_a m_targets_a m_predicates_a m_numbers_a m_puts_a m_codes_a m_weights_a m_sets_a m_picks_a m_classes_a m_steps_a m_told_a cI cZ cB cC m_rules m_changes m_mostTries m_tried m_settled m_found m_isCovered m_covered m_toldMany m_there m_now m_kinds m_targets m_predicates m_numbers m_puts m_codes m_weights m_sets m_picks m_classes m_steps m_told) s.heap.size = A at hD ⊢
  have hA : ∀ q : Nat, s.heap.size ≤ q → A q := fun q h => by rw [← hAe]; exact Or.inr h
  refine kstart (A := A) hP (fun H hP hS => ?_)
  have hl := lv_entry ([.ref m_a, .int v1, .int v2]) (n := 6) (Nat.le_of_ble_eq_true rfl)
  rw [lg_entry_eq]
  generalize (lg_sl ([.ref m_a, .int v1, .int v2]) ++ List.replicate (6 - (lg_sl ([.ref m_a, .int v1, .int v2])).length) Slot.unset).toArray = ls at hl ⊢
  have hl : lv_has ls 6 [(0, .ref m_a), (1, .int v1), (2, .int v2)] := hl
  unfold mK5_isOfNow at hm
  refine lv_iconst (v := 0) hx hb dK5_isOfNow_0 (by decide) ?_
  refine lv_istore_n (lv' := [(3, .int 0), (0, .ref m_a), (1, .int v1), (2, .int v2)]) hx hb dK5_isOfNow_1 rfl hl (by decide) rfl (fun ls hl => ?_)
  have lx2 : ∀ (m_classesx2 : Nat → Int32) (H : Heap) (locs : List Loc) (ls : Array Slot), mK5_isOfNow_A2 m_now v2 m_classesx2 = some (r0, m_classes_r) → va_P D vwCl (wX m_a m_there_a m_now_a m_kinds_a m_targets_a m_predicates_a m_numbers_a m_puts_a m_codes_a m_weights_a m_sets_a m_picks_a m_classes_a m_steps_a m_told_a cI cZ cB cC m_rules m_changes m_mostTries m_tried m_settled m_found m_isCovered m_covered m_toldMany m_there m_now m_kinds m_targets m_predicates m_numbers m_puts m_codes m_weights m_sets m_picks m_classesx2 m_steps m_told) H → va_D A (wX m_a m_there_a m_now_a m_kinds_a m_targets_a m_predicates_a m_numbers_a m_puts_a m_codes_a m_weights_a m_sets_a m_picks_a m_classes_a m_steps_a m_told_a cI cZ cB cC m_rules m_changes m_mostTries m_tried m_settled m_found m_isCovered m_covered m_toldMany m_there m_now m_kinds m_targets m_predicates m_numbers m_puts m_codes m_weights m_sets m_picks m_classesx2 m_steps m_told) → va_S A s.heap H locs → lv_has ls 6 [(0, .ref m_a), (2, .int v2)] → W p l e (headSpec wsK5_isOfNow rmK5_isOfNow).room s m ([.ref m_a, .int v1, .int v2] : List Value).toArray below meth c H locs 0 0 (MQ below (QI D A r0 (wX m_a m_there_a m_now_a m_kinds_a m_targets_a m_predicates_a m_numbers_a m_puts_a m_codes_a m_weights_a m_sets_a m_picks_a m_classes_a m_steps_a m_told_a cI cZ cB cC m_rules m_changes m_mostTries m_tried m_settled m_found m_isCovered m_covered m_toldMany m_there m_now m_kinds m_targets m_predicates m_numbers m_puts m_codes m_weights m_sets m_picks m_classes_r m_steps m_told)) ([.ref m_a, .int v1, .int v2] : List Value).toArray s 0 0 A) (F0 m 31 ls []) := by
    intro m_classesx2 H locs ls hm hP hD hS hl
    unfold mK5_isOfNow_A2 at hm
    refine lv_iconst (v := 0) hx hb dK5_isOfNow_31 (by decide) ?_
    refine lv_istore_n (lv' := [(3, .int 0), (0, .ref m_a), (2, .int v2)]) hx hb dK5_isOfNow_32 rfl hl (by decide) rfl (fun ls hl => ?_)
    have lx33 : ∀ (m_classesx33 : Nat → Int32) (H : Heap) (locs : List Loc) (ls : Array Slot), mK5_isOfNow_A33 v2 m_classesx33 = some (r0, m_classes_r) → va_P D vwCl (wX m_a m_there_a m_now_a m_kinds_a m_targets_a m_predicates_a m_numbers_a m_puts_a m_codes_a m_weights_a m_sets_a m_picks_a m_classes_a m_steps_a m_told_a cI cZ cB cC m_rules m_changes m_mostTries m_tried m_settled m_found m_isCovered m_covered m_toldMany m_there m_now m_kinds m_targets m_predicates m_numbers m_puts m_codes m_weights m_sets m_picks m_classesx33 m_steps m_told) H → va_D A (wX m_a m_there_a m_now_a m_kinds_a m_targets_a m_predicates_a m_numbers_a m_puts_a m_codes_a m_weights_a m_sets_a m_picks_a m_classes_a m_steps_a m_told_a cI cZ cB cC m_rules m_changes m_mostTries m_tried m_settled m_found m_isCovered m_covered m_toldMany m_there m_now m_kinds m_targets m_predicates m_numbers m_puts m_codes m_weights m_sets m_picks m_classesx33 m_steps m_told) → va_S A s.heap H locs → lv_has ls 6 [(0, .ref m_a), (2, .int v2)] → W p l e (headSpec wsK5_isOfNow rmK5_isOfNow).room s m ([.ref m_a, .int v1, .int v2] : List Value).toArray below meth c H locs 0 0 (MQ below (QI D A r0 (wX m_a m_there_a m_now_a m_kinds_a m_targets_a m_predicates_a m_numbers_a m_puts_a m_codes_a m_weights_a m_sets_a m_picks_a m_classes_a m_steps_a m_told_a cI cZ cB cC m_rules m_changes m_mostTries m_tried m_settled m_found m_isCovered m_covered m_toldMany m_there m_now m_kinds m_targets m_predicates m_numbers m_puts m_codes m_weights m_sets m_picks m_classes_r m_steps m_told)) ([.ref m_a, .int v1, .int v2] : List Value).toArray s 0 0 A) (F0 m 125 ls []) := by
      intro m_classesx33 H locs ls hm hP hD hS hl
      unfold mK5_isOfNow_A33 at hm
      refine lv_aload_n hx hb dK5_isOfNow_125 rfl (lv_at hl 0 rfl) ?_
      refine va_get (D := D) (ci := 5) (v := .ref m_classes_a) (C := RK5) (T := TK5) (N := 23) hx hb hts inK5 hown hK hP 0 rfl rfl 19 (by decide) (hts _ wdt3_205) (fun _ h9 => h9) rfl dK5_isOfNow_126 ?_
      refine lv_iload_n hx hb dK5_isOfNow_129 rfl (lv_at hl 1 rfl) ?_
      obtain ⟨x1, ex1, hm⟩ := bd1_s hm
      obtain ⟨hix1, ex1⟩ := rd_s ex1
      refine va_zald hx hb hK hP 12 1 rfl rfl hix1 dK5_isOfNow_130 ?_
      refine topi ex1 ?_
      obtain ⟨x2, ex2, hm⟩ := bd1_s hm
      obtain ⟨eex2, hzx2⟩ := bz_s ex2
      refine topi eex2 ?_
      replace hm := Option.some.inj hm
      simp only [Prod.mk.injEq] at hm
      obtain ⟨rfl, rfl⟩ := hm
      exact k_retz hx hb hr hlocks (bz_n hzx2) hP hD hS dK5_isOfNow_131
    have lp33 : ∀ (n33 : Nat) (i3l33 : Int32) (m_classesl33 : Nat → Int32) (H : Heap) (locs : List Loc) (ls : Array Slot), mK5_isOfNow_L33 m_now (mK5_isOfNow_A33 v2) n33 i3l33 m_classesl33 = some (r0, m_classes_r) → va_P D vwCl (wX m_a m_there_a m_now_a m_kinds_a m_targets_a m_predicates_a m_numbers_a m_puts_a m_codes_a m_weights_a m_sets_a m_picks_a m_classes_a m_steps_a m_told_a cI cZ cB cC m_rules m_changes m_mostTries m_tried m_settled m_found m_isCovered m_covered m_toldMany m_there m_now m_kinds m_targets m_predicates m_numbers m_puts m_codes m_weights m_sets m_picks m_classesl33 m_steps m_told) H → va_D A (wX m_a m_there_a m_now_a m_kinds_a m_targets_a m_predicates_a m_numbers_a m_puts_a m_codes_a m_weights_a m_sets_a m_picks_a m_classes_a m_steps_a m_told_a cI cZ cB cC m_rules m_changes m_mostTries m_tried m_settled m_found m_isCovered m_covered m_toldMany m_there m_now m_kinds m_targets m_predicates m_numbers m_puts m_codes m_weights m_sets m_picks m_classesl33 m_steps m_told) → va_S A s.heap H locs → lv_has ls 6 [(3, .int i3l33), (0, .ref m_a), (2, .int v2)] → W p l e (headSpec wsK5_isOfNow rmK5_isOfNow).room s m ([.ref m_a, .int v1, .int v2] : List Value).toArray below meth c H locs 0 0 (MQ below (QI D A r0 (wX m_a m_there_a m_now_a m_kinds_a m_targets_a m_predicates_a m_numbers_a m_puts_a m_codes_a m_weights_a m_sets_a m_picks_a m_classes_a m_steps_a m_told_a cI cZ cB cC m_rules m_changes m_mostTries m_tried m_settled m_found m_isCovered m_covered m_toldMany m_there m_now m_kinds m_targets m_predicates m_numbers m_puts m_codes m_weights m_sets m_picks m_classes_r m_steps m_told)) ([.ref m_a, .int v1, .int v2] : List Value).toArray s 0 0 A) (F0 m 33 ls []) := by
      intro n33
      induction n33 with
      | zero => intro i3l33 m_classesl33 H locs ls hm; exact nomatch (show none = _ from hm)
      | succ n33 ih33 =>
        intro i3l33 m_classesl33 H locs ls hm hP hD hS hl
        replace hm : mK5_isOfNow_B33 m_now (mK5_isOfNow_A33 v2) (mK5_isOfNow_L33 m_now (mK5_isOfNow_A33 v2) n33) i3l33 m_classesl33 = some (r0, m_classes_r) := hm
        unfold mK5_isOfNow_B33 at hm
        refine lv_iload_n hx hb dK5_isOfNow_33 rfl (lv_at hl 0 rfl) ?_
        refine lv_bipush (v := 12) hx hb dK5_isOfNow_34 (by decide) ?_
        refine lv_icmp_ge (tgt := 125) hx hb dK5_isOfNow_36 (by decide) (fun hc => ?_) (fun hc => ?_)
        · replace hm := ift hm hc
          exact lx33 m_classesl33 _ _ _ hm hP hD hS (lv_sub hl [1, 2] rfl)
        · replace hm := iff_ hm hc
          refine lv_iconst (v := 0) hx hb dK5_isOfNow_39 (by decide) ?_
          refine lv_istore (lv' := [(4, .int 0), (3, .int i3l33), (0, .ref m_a), (2, .int v2)]) hx hb dK5_isOfNow_40 hl (by decide) rfl (fun ls hl => ?_)
          have lx42 : ∀ (m_classesx42 : Nat → Int32) (H : Heap) (locs : List Loc) (ls : Array Slot), mK5_isOfNow_A42 i3l33 (mK5_isOfNow_L33 m_now (mK5_isOfNow_A33 v2) n33) m_classesx42 = some (r0, m_classes_r) → va_P D vwCl (wX m_a m_there_a m_now_a m_kinds_a m_targets_a m_predicates_a m_numbers_a m_puts_a m_codes_a m_weights_a m_sets_a m_picks_a m_classes_a m_steps_a m_told_a cI cZ cB cC m_rules m_changes m_mostTries m_tried m_settled m_found m_isCovered m_covered m_toldMany m_there m_now m_kinds m_targets m_predicates m_numbers m_puts m_codes m_weights m_sets m_picks m_classesx42 m_steps m_told) H → va_D A (wX m_a m_there_a m_now_a m_kinds_a m_targets_a m_predicates_a m_numbers_a m_puts_a m_codes_a m_weights_a m_sets_a m_picks_a m_classes_a m_steps_a m_told_a cI cZ cB cC m_rules m_changes m_mostTries m_tried m_settled m_found m_isCovered m_covered m_toldMany m_there m_now m_kinds m_targets m_predicates m_numbers m_puts m_codes m_weights m_sets m_picks m_classesx42 m_steps m_told) → va_S A s.heap H locs → lv_has ls 6 [(0, .ref m_a), (2, .int v2), (3, .int i3l33)] → W p l e (headSpec wsK5_isOfNow rmK5_isOfNow).room s m ([.ref m_a, .int v1, .int v2] : List Value).toArray below meth c H locs 0 0 (MQ below (QI D A r0 (wX m_a m_there_a m_now_a m_kinds_a m_targets_a m_predicates_a m_numbers_a m_puts_a m_codes_a m_weights_a m_sets_a m_picks_a m_classes_a m_steps_a m_told_a cI cZ cB cC m_rules m_changes m_mostTries m_tried m_settled m_found m_isCovered m_covered m_toldMany m_there m_now m_kinds m_targets m_predicates m_numbers m_puts m_codes m_weights m_sets m_picks m_classes_r m_steps m_told)) ([.ref m_a, .int v1, .int v2] : List Value).toArray s 0 0 A) (F0 m 119 ls []) := by
            intro m_classesx42 H locs ls hm hP hD hS hl
            unfold mK5_isOfNow_A42 at hm
            obtain ⟨x3, ex3, hm⟩ := bd1_s hm
            refine lv_iinc (v := x3) (lv' := [(3, .int x3), (0, .ref m_a), (2, .int v2)]) hx hb dK5_isOfNow_119 hl (k := 2) rfl (by rw [← Option.some.inj ex3]; rfl) (by decide) rfl (fun ls hl => ?_)
            refine lv_goto (tgt := 33) hx hb dK5_isOfNow_122 (by decide) ?_
            exact ih33 x3 m_classesx42 _ _ _ hm hP hD hS (lv_sub hl [0, 1, 2] rfl)
          have lp42 : ∀ (n42 : Nat) (i4l42 : Int32) (m_classesl42 : Nat → Int32) (H : Heap) (locs : List Loc) (ls : Array Slot), mK5_isOfNow_L42 m_now (mK5_isOfNow_A42 i3l33 (mK5_isOfNow_L33 m_now (mK5_isOfNow_A33 v2) n33)) n42 i4l42 m_classesl42 = some (r0, m_classes_r) → va_P D vwCl (wX m_a m_there_a m_now_a m_kinds_a m_targets_a m_predicates_a m_numbers_a m_puts_a m_codes_a m_weights_a m_sets_a m_picks_a m_classes_a m_steps_a m_told_a cI cZ cB cC m_rules m_changes m_mostTries m_tried m_settled m_found m_isCovered m_covered m_toldMany m_there m_now m_kinds m_targets m_predicates m_numbers m_puts m_codes m_weights m_sets m_picks m_classesl42 m_steps m_told) H → va_D A (wX m_a m_there_a m_now_a m_kinds_a m_targets_a m_predicates_a m_numbers_a m_puts_a m_codes_a m_weights_a m_sets_a m_picks_a m_classes_a m_steps_a m_told_a cI cZ cB cC m_rules m_changes m_mostTries m_tried m_settled m_found m_isCovered m_covered m_toldMany m_there m_now m_kinds m_targets m_predicates m_numbers m_puts m_codes m_weights m_sets m_picks m_classesl42 m_steps m_told) → va_S A s.heap H locs → lv_has ls 6 [(4, .int i4l42), (3, .int i3l33), (0, .ref m_a), (2, .int v2)] → W p l e (headSpec wsK5_isOfNow rmK5_isOfNow).room s m ([.ref m_a, .int v1, .int v2] : List Value).toArray below meth c H locs 0 0 (MQ below (QI D A r0 (wX m_a m_there_a m_now_a m_kinds_a m_targets_a m_predicates_a m_numbers_a m_puts_a m_codes_a m_weights_a m_sets_a m_picks_a m_classes_a m_steps_a m_told_a cI cZ cB cC m_rules m_changes m_mostTries m_tried m_settled m_found m_isCovered m_covered m_toldMany m_there m_now m_kinds m_targets m_predicates m_numbers m_puts m_codes m_weights m_sets m_picks m_classes_r m_steps m_told)) ([.ref m_a, .int v1, .int v2] : List Value).toArray s 0 0 A) (F0 m 42 ls []) := by
            intro n42
            induction n42 with
            | zero => intro i4l42 m_classesl42 H locs ls hm; exact nomatch (show none = _ from hm)
            | succ n42 ih42 =>
              intro i4l42 m_classesl42 H locs ls hm hP hD hS hl
              replace hm : mK5_isOfNow_B42 m_now (mK5_isOfNow_A42 i3l33 (mK5_isOfNow_L33 m_now (mK5_isOfNow_A33 v2) n33)) (mK5_isOfNow_L42 m_now (mK5_isOfNow_A42 i3l33 (mK5_isOfNow_L33 m_now (mK5_isOfNow_A33 v2) n33)) n42) i4l42 m_classesl42 = some (r0, m_classes_r) := hm
              unfold mK5_isOfNow_B42 at hm
              refine lv_iload hx hb dK5_isOfNow_42 (lv_at hl 0 rfl) ?_
              refine lv_bipush (v := 12) hx hb dK5_isOfNow_44 (by decide) ?_
              refine lv_icmp_ge (tgt := 119) hx hb dK5_isOfNow_46 (by decide) (fun hc => ?_) (fun hc => ?_)
              · replace hm := ift hm hc
                exact lx42 m_classesl42 _ _ _ hm hP hD hS (lv_sub hl [2, 3, 1] rfl)
              · replace hm := iff_ hm hc
                refine lv_iconst (v := 0) hx hb dK5_isOfNow_49 (by decide) ?_
                refine lv_istore (lv' := [(5, .int 0), (4, .int i4l42), (3, .int i3l33), (0, .ref m_a), (2, .int v2)]) hx hb dK5_isOfNow_50 hl (by decide) rfl (fun ls hl => ?_)
                have lx52 : ∀ (m_classesx52 : Nat → Int32) (H : Heap) (locs : List Loc) (ls : Array Slot), mK5_isOfNow_A52 i4l42 (mK5_isOfNow_L42 m_now (mK5_isOfNow_A42 i3l33 (mK5_isOfNow_L33 m_now (mK5_isOfNow_A33 v2) n33)) n42) m_classesx52 = some (r0, m_classes_r) → va_P D vwCl (wX m_a m_there_a m_now_a m_kinds_a m_targets_a m_predicates_a m_numbers_a m_puts_a m_codes_a m_weights_a m_sets_a m_picks_a m_classes_a m_steps_a m_told_a cI cZ cB cC m_rules m_changes m_mostTries m_tried m_settled m_found m_isCovered m_covered m_toldMany m_there m_now m_kinds m_targets m_predicates m_numbers m_puts m_codes m_weights m_sets m_picks m_classesx52 m_steps m_told) H → va_D A (wX m_a m_there_a m_now_a m_kinds_a m_targets_a m_predicates_a m_numbers_a m_puts_a m_codes_a m_weights_a m_sets_a m_picks_a m_classes_a m_steps_a m_told_a cI cZ cB cC m_rules m_changes m_mostTries m_tried m_settled m_found m_isCovered m_covered m_toldMany m_there m_now m_kinds m_targets m_predicates m_numbers m_puts m_codes m_weights m_sets m_picks m_classesx52 m_steps m_told) → va_S A s.heap H locs → lv_has ls 6 [(0, .ref m_a), (2, .int v2), (3, .int i3l33), (4, .int i4l42)] → W p l e (headSpec wsK5_isOfNow rmK5_isOfNow).room s m ([.ref m_a, .int v1, .int v2] : List Value).toArray below meth c H locs 0 0 (MQ below (QI D A r0 (wX m_a m_there_a m_now_a m_kinds_a m_targets_a m_predicates_a m_numbers_a m_puts_a m_codes_a m_weights_a m_sets_a m_picks_a m_classes_a m_steps_a m_told_a cI cZ cB cC m_rules m_changes m_mostTries m_tried m_settled m_found m_isCovered m_covered m_toldMany m_there m_now m_kinds m_targets m_predicates m_numbers m_puts m_codes m_weights m_sets m_picks m_classes_r m_steps m_told)) ([.ref m_a, .int v1, .int v2] : List Value).toArray s 0 0 A) (F0 m 113 ls []) := by
                  intro m_classesx52 H locs ls hm hP hD hS hl
                  unfold mK5_isOfNow_A52 at hm
                  obtain ⟨x4, ex4, hm⟩ := bd1_s hm
                  refine lv_iinc (v := x4) (lv' := [(4, .int x4), (0, .ref m_a), (2, .int v2), (3, .int i3l33)]) hx hb dK5_isOfNow_113 hl (k := 3) rfl (by rw [← Option.some.inj ex4]; rfl) (by decide) rfl (fun ls hl => ?_)
                  refine lv_goto (tgt := 42) hx hb dK5_isOfNow_116 (by decide) ?_
                  exact ih42 x4 m_classesx52 _ _ _ hm hP hD hS (lv_sub hl [0, 3, 1, 2] rfl)
                have lp52 : ∀ (n52 : Nat) (i5l52 : Int32) (m_classesl52 : Nat → Int32) (H : Heap) (locs : List Loc) (ls : Array Slot), mK5_isOfNow_L52 m_now i4l42 (mK5_isOfNow_A52 i4l42 (mK5_isOfNow_L42 m_now (mK5_isOfNow_A42 i3l33 (mK5_isOfNow_L33 m_now (mK5_isOfNow_A33 v2) n33)) n42)) n52 i5l52 m_classesl52 = some (r0, m_classes_r) → va_P D vwCl (wX m_a m_there_a m_now_a m_kinds_a m_targets_a m_predicates_a m_numbers_a m_puts_a m_codes_a m_weights_a m_sets_a m_picks_a m_classes_a m_steps_a m_told_a cI cZ cB cC m_rules m_changes m_mostTries m_tried m_settled m_found m_isCovered m_covered m_toldMany m_there m_now m_kinds m_targets m_predicates m_numbers m_puts m_codes m_weights m_sets m_picks m_classesl52 m_steps m_told) H → va_D A (wX m_a m_there_a m_now_a m_kinds_a m_targets_a m_predicates_a m_numbers_a m_puts_a m_codes_a m_weights_a m_sets_a m_picks_a m_classes_a m_steps_a m_told_a cI cZ cB cC m_rules m_changes m_mostTries m_tried m_settled m_found m_isCovered m_covered m_toldMany m_there m_now m_kinds m_targets m_predicates m_numbers m_puts m_codes m_weights m_sets m_picks m_classesl52 m_steps m_told) → va_S A s.heap H locs → lv_has ls 6 [(5, .int i5l52), (4, .int i4l42), (3, .int i3l33), (0, .ref m_a), (2, .int v2)] → W p l e (headSpec wsK5_isOfNow rmK5_isOfNow).room s m ([.ref m_a, .int v1, .int v2] : List Value).toArray below meth c H locs 0 0 (MQ below (QI D A r0 (wX m_a m_there_a m_now_a m_kinds_a m_targets_a m_predicates_a m_numbers_a m_puts_a m_codes_a m_weights_a m_sets_a m_picks_a m_classes_a m_steps_a m_told_a cI cZ cB cC m_rules m_changes m_mostTries m_tried m_settled m_found m_isCovered m_covered m_toldMany m_there m_now m_kinds m_targets m_predicates m_numbers m_puts m_codes m_weights m_sets m_picks m_classes_r m_steps m_told)) ([.ref m_a, .int v1, .int v2] : List Value).toArray s 0 0 A) (F0 m 52 ls []) := by
                  intro n52
                  induction n52 with
                  | zero => intro i5l52 m_classesl52 H locs ls hm; exact nomatch (show none = _ from hm)
                  | succ n52 ih52 =>
                    intro i5l52 m_classesl52 H locs ls hm hP hD hS hl
                    replace hm : mK5_isOfNow_B52 m_now i4l42 (mK5_isOfNow_A52 i4l42 (mK5_isOfNow_L42 m_now (mK5_isOfNow_A42 i3l33 (mK5_isOfNow_L33 m_now (mK5_isOfNow_A33 v2) n33)) n42)) (mK5_isOfNow_L52 m_now i4l42 (mK5_isOfNow_A52 i4l42 (mK5_isOfNow_L42 m_now (mK5_isOfNow_A42 i3l33 (mK5_isOfNow_L33 m_now (mK5_isOfNow_A33 v2) n33)) n42)) n52) i5l52 m_classesl52 = some (r0, m_classes_r) := hm
                    unfold mK5_isOfNow_B52 at hm
                    refine lv_iload hx hb dK5_isOfNow_52 (lv_at hl 0 rfl) ?_
                    refine lv_bipush (v := 12) hx hb dK5_isOfNow_54 (by decide) ?_
                    refine lv_icmp_ge (tgt := 113) hx hb dK5_isOfNow_56 (by decide) (fun hc => ?_) (fun hc => ?_)
                    · replace hm := ift hm hc
                      exact lx52 m_classesl52 _ _ _ hm hP hD hS (lv_sub hl [3, 4, 2, 1] rfl)
                    · replace hm := iff_ hm hc
                      refine lv_aload_n hx hb dK5_isOfNow_59 rfl (lv_at hl 3 rfl) ?_
                      refine va_get (D := D) (ci := 5) (v := .ref m_classes_a) (C := RK5) (T := TK5) (N := 23) hx hb hts inK5 hown hK hP 0 rfl rfl 19 (by decide) (hts _ wdt3_205) (fun _ h9 => h9) rfl dK5_isOfNow_60 ?_
                      refine lv_iload hx hb dK5_isOfNow_63 (lv_at hl 1 rfl) ?_
                      obtain ⟨x5, ex5, hm⟩ := bd1_s hm
                      obtain ⟨hix5, ex5⟩ := rd_s ex5
                      refine va_zald hx hb hK hP 12 1 rfl rfl hix5 dK5_isOfNow_65 ?_
                      refine topi ex5 ?_
                      refine lv_if_eq (tgt := 113) hx hb dK5_isOfNow_66 (by decide) (fun hc => ?_) (fun hc => ?_)
                      · replace hm := ift hm hc
                        exact lx52 m_classesl52 _ _ _ hm hP hD hS (lv_sub hl [3, 4, 2, 1] rfl)
                      · replace hm := iff_ hm hc
                        refine lv_aload_n hx hb dK5_isOfNow_69 rfl (lv_at hl 3 rfl) ?_
                        refine va_get (D := D) (ci := 5) (v := .ref m_classes_a) (C := RK5) (T := TK5) (N := 23) hx hb hts inK5 hown hK hP 0 rfl rfl 19 (by decide) (hts _ wdt3_205) (fun _ h9 => h9) rfl dK5_isOfNow_70 ?_
                        refine lv_iload hx hb dK5_isOfNow_73 (lv_at hl 0 rfl) ?_
                        refine lv_aload_n hx hb dK5_isOfNow_75 rfl (lv_at hl 3 rfl) ?_
                        refine va_get (D := D) (ci := 5) (v := .ref m_classes_a) (C := RK5) (T := TK5) (N := 23) hx hb hts inK5 hown hK hP 0 rfl rfl 19 (by decide) (hts _ wdt3_205) (fun _ h9 => h9) rfl dK5_isOfNow_76 ?_
                        refine lv_iload hx hb dK5_isOfNow_79 (lv_at hl 0 rfl) ?_
                        obtain ⟨x6, ex6, hm⟩ := bd1_s hm
                        obtain ⟨hix6, ex6⟩ := rd_s ex6
                        refine va_zald hx hb hK hP 12 1 rfl rfl hix6 dK5_isOfNow_81 ?_
                        refine topi ex6 ?_
                        refine lv_if_ne (tgt := 101) hx hb dK5_isOfNow_82 (by decide) (fun hc => ?_) (fun hc => ?_)
                        · replace hm := iff_ hm hc
                          refine lv_iconst (v := 1) hx hb dK5_isOfNow_101 (by decide) ?_
                          refine lv_goto (tgt := 106) hx hb dK5_isOfNow_102 (by decide) ?_
                          obtain ⟨x7, ex7, hm⟩ := bd1_s hm
                          obtain ⟨hix7, ex7⟩ := wrt_s ex7
                          refine va_zast hx hb hK hP hD hS 12 1 rfl rfl hix7 dK5_isOfNow_106 (fun H locs hP hD hS => ?_)
                          rw [ex7] at hP hD
                          have hP : va_P D vwCl (wX m_a m_there_a m_now_a m_kinds_a m_targets_a m_predicates_a m_numbers_a m_puts_a m_codes_a m_weights_a m_sets_a m_picks_a m_classes_a m_steps_a m_told_a cI cZ cB cC m_rules m_changes m_mostTries m_tried m_settled m_found m_isCovered m_covered m_toldMany m_there m_now m_kinds m_targets m_predicates m_numbers m_puts m_codes m_weights m_sets m_picks x7 m_steps m_told) H := hP
                          have hD : va_D A (wX m_a m_there_a m_now_a m_kinds_a m_targets_a m_predicates_a m_numbers_a m_puts_a m_codes_a m_weights_a m_sets_a m_picks_a m_classes_a m_steps_a m_told_a cI cZ cB cC m_rules m_changes m_mostTries m_tried m_settled m_found m_isCovered m_covered m_toldMany m_there m_now m_kinds m_targets m_predicates m_numbers m_puts m_codes m_weights m_sets m_picks x7 m_steps m_told) := hD
                          obtain ⟨x8, ex8, hm⟩ := bd1_s hm
                          refine lv_iinc (v := x8) (lv' := [(5, .int x8), (4, .int i4l42), (3, .int i3l33), (0, .ref m_a), (2, .int v2)]) hx hb dK5_isOfNow_107 hl (k := 0) rfl (by rw [← Option.some.inj ex8]; rfl) (by decide) rfl (fun ls hl => ?_)
                          refine lv_goto (tgt := 52) hx hb dK5_isOfNow_110 (by decide) ?_
                          exact ih52 x8 x7 _ _ _ hm hP hD hS (lv_sub hl [0, 1, 2, 3, 4] rfl)
                        · replace hm := ift hm hc
                          refine lv_aload_n hx hb dK5_isOfNow_85 rfl (lv_at hl 3 rfl) ?_
                          refine va_get (D := D) (ci := 5) (v := .ref m_now_a) (C := RK5) (T := TK5) (N := 23) hx hb hts inK5 hown hK hP 0 rfl rfl 1 (by decide) (hts _ wdt3_187) (fun _ h9 => h9) rfl dK5_isOfNow_86 ?_
                          refine lv_iload hx hb dK5_isOfNow_89 (lv_at hl 1 rfl) ?_
                          refine lv_iconst (v := 1) hx hb dK5_isOfNow_91 (by decide) ?_
                          refine lv_iload hx hb dK5_isOfNow_92 (lv_at hl 0 rfl) ?_
                          obtain ⟨x9, ec10, hm⟩ := bd1_s hm
                          have hPc : va_P D vwCl [] H := va_P0
                          have hDc : va_D A [] := va_D0
                          refine k_calli0 (va_runS (As := [.int i4l42, .int 1, .int i5l52]) (rest := [.ref m_now_a, .int i5l52, .ref m_classes_a]) ⟨hx, hb, hml, hown, hts⟩ (kK5_codeOf l D cI cZ cB cC H.size i4l42 1 i5l52 x9 ec10) (va_cwS 3 hts (gdS wdt4_26 wdt4_27 wdt1_10 gkK5_codeOf) rfl rfl rfl (by decide +kernel) ⟨Nat.le_of_ble_eq_true rfl, Nat.le_of_ble_eq_true rfl⟩) ⟨Pr_blind, fun U hU hW => ⟨rfl, Pr_at hK hN hPc hDc hU hW⟩⟩ rfl rfl hl.1 rfl (lv_room (Nat.le_of_ble_eq_true rfl)) dK5_isOfNow_94 ⟨Nat.le_of_ble_eq_true rfl, Nat.le_of_ble_eq_true rfl⟩) hP hD hS hA (fun H locs hP hD hS => ?_)
                          obtain ⟨x11, ex11, hm⟩ := bd1_s hm
                          obtain ⟨hix11, ex11⟩ := rd_s ex11
                          refine va_zald hx hb hK hP 2 1 rfl rfl hix11 dK5_isOfNow_97 ?_
                          refine topi ex11 ?_
                          refine lv_if_eq (tgt := 105) hx hb dK5_isOfNow_98 (by decide) (fun hc => ?_) (fun hc => ?_)
                          · replace hm := ift hm hc
                            refine lv_iconst (v := 0) hx hb dK5_isOfNow_105 (by decide) ?_
                            obtain ⟨x12, ex12, hm⟩ := bd1_s hm
                            obtain ⟨hix12, ex12⟩ := wrt_s ex12
                            refine va_zast hx hb hK hP hD hS 12 1 rfl rfl hix12 dK5_isOfNow_106 (fun H locs hP hD hS => ?_)
                            rw [ex12] at hP hD
                            have hP : va_P D vwCl (wX m_a m_there_a m_now_a m_kinds_a m_targets_a m_predicates_a m_numbers_a m_puts_a m_codes_a m_weights_a m_sets_a m_picks_a m_classes_a m_steps_a m_told_a cI cZ cB cC m_rules m_changes m_mostTries m_tried m_settled m_found m_isCovered m_covered m_toldMany m_there m_now m_kinds m_targets m_predicates m_numbers m_puts m_codes m_weights m_sets m_picks x12 m_steps m_told) H := hP
                            have hD : va_D A (wX m_a m_there_a m_now_a m_kinds_a m_targets_a m_predicates_a m_numbers_a m_puts_a m_codes_a m_weights_a m_sets_a m_picks_a m_classes_a m_steps_a m_told_a cI cZ cB cC m_rules m_changes m_mostTries m_tried m_settled m_found m_isCovered m_covered m_toldMany m_there m_now m_kinds m_targets m_predicates m_numbers m_puts m_codes m_weights m_sets m_picks x12 m_steps m_told) := hD
                            obtain ⟨x13, ex13, hm⟩ := bd1_s hm
                            refine lv_iinc (v := x13) (lv' := [(5, .int x13), (4, .int i4l42), (3, .int i3l33), (0, .ref m_a), (2, .int v2)]) hx hb dK5_isOfNow_107 hl (k := 0) rfl (by rw [← Option.some.inj ex13]; rfl) (by decide) rfl (fun ls hl => ?_)
                            refine lv_goto (tgt := 52) hx hb dK5_isOfNow_110 (by decide) ?_
                            exact ih52 x13 x12 _ _ _ hm hP hD hS (lv_sub hl [0, 1, 2, 3, 4] rfl)
                          · replace hm := iff_ hm hc
                            refine lv_iconst (v := 1) hx hb dK5_isOfNow_101 (by decide) ?_
                            refine lv_goto (tgt := 106) hx hb dK5_isOfNow_102 (by decide) ?_
                            obtain ⟨x14, ex14, hm⟩ := bd1_s hm
                            obtain ⟨hix14, ex14⟩ := wrt_s ex14
                            refine va_zast hx hb hK hP hD hS 12 1 rfl rfl hix14 dK5_isOfNow_106 (fun H locs hP hD hS => ?_)
                            rw [ex14] at hP hD
                            have hP : va_P D vwCl (wX m_a m_there_a m_now_a m_kinds_a m_targets_a m_predicates_a m_numbers_a m_puts_a m_codes_a m_weights_a m_sets_a m_picks_a m_classes_a m_steps_a m_told_a cI cZ cB cC m_rules m_changes m_mostTries m_tried m_settled m_found m_isCovered m_covered m_toldMany m_there m_now m_kinds m_targets m_predicates m_numbers m_puts m_codes m_weights m_sets m_picks x14 m_steps m_told) H := hP
                            have hD : va_D A (wX m_a m_there_a m_now_a m_kinds_a m_targets_a m_predicates_a m_numbers_a m_puts_a m_codes_a m_weights_a m_sets_a m_picks_a m_classes_a m_steps_a m_told_a cI cZ cB cC m_rules m_changes m_mostTries m_tried m_settled m_found m_isCovered m_covered m_toldMany m_there m_now m_kinds m_targets m_predicates m_numbers m_puts m_codes m_weights m_sets m_picks x14 m_steps m_told) := hD
                            obtain ⟨x15, ex15, hm⟩ := bd1_s hm
                            refine lv_iinc (v := x15) (lv' := [(5, .int x15), (4, .int i4l42), (3, .int i3l33), (0, .ref m_a), (2, .int v2)]) hx hb dK5_isOfNow_107 hl (k := 0) rfl (by rw [← Option.some.inj ex15]; rfl) (by decide) rfl (fun ls hl => ?_)
                            refine lv_goto (tgt := 52) hx hb dK5_isOfNow_110 (by decide) ?_
                            exact ih52 x15 x14 _ _ _ hm hP hD hS (lv_sub hl [0, 1, 2, 3, 4] rfl)
                exact lp52 5000 0 m_classesl42 _ _ _ hm hP hD hS (lv_sub hl [0, 1, 2, 3, 4] rfl)
          exact lp42 5000 0 m_classesl33 _ _ _ hm hP hD hS (lv_sub hl [0, 1, 2, 3] rfl)
    exact lp33 5000 0 m_classesx2 _ _ _ hm hP hD hS (lv_sub hl [0, 1, 2] rfl)
  have lp2 : ∀ (n2 : Nat) (i3l2 : Int32) (m_classesl2 : Nat → Int32) (H : Heap) (locs : List Loc) (ls : Array Slot), mK5_isOfNow_L2 m_now v1 (mK5_isOfNow_A2 m_now v2) n2 i3l2 m_classesl2 = some (r0, m_classes_r) → va_P D vwCl (wX m_a m_there_a m_now_a m_kinds_a m_targets_a m_predicates_a m_numbers_a m_puts_a m_codes_a m_weights_a m_sets_a m_picks_a m_classes_a m_steps_a m_told_a cI cZ cB cC m_rules m_changes m_mostTries m_tried m_settled m_found m_isCovered m_covered m_toldMany m_there m_now m_kinds m_targets m_predicates m_numbers m_puts m_codes m_weights m_sets m_picks m_classesl2 m_steps m_told) H → va_D A (wX m_a m_there_a m_now_a m_kinds_a m_targets_a m_predicates_a m_numbers_a m_puts_a m_codes_a m_weights_a m_sets_a m_picks_a m_classes_a m_steps_a m_told_a cI cZ cB cC m_rules m_changes m_mostTries m_tried m_settled m_found m_isCovered m_covered m_toldMany m_there m_now m_kinds m_targets m_predicates m_numbers m_puts m_codes m_weights m_sets m_picks m_classesl2 m_steps m_told) → va_S A s.heap H locs → lv_has ls 6 [(3, .int i3l2), (0, .ref m_a), (1, .int v1), (2, .int v2)] → W p l e (headSpec wsK5_isOfNow rmK5_isOfNow).room s m ([.ref m_a, .int v1, .int v2] : List Value).toArray below meth c H locs 0 0 (MQ below (QI D A r0 (wX m_a m_there_a m_now_a m_kinds_a m_targets_a m_predicates_a m_numbers_a m_puts_a m_codes_a m_weights_a m_sets_a m_picks_a m_classes_a m_steps_a m_told_a cI cZ cB cC m_rules m_changes m_mostTries m_tried m_settled m_found m_isCovered m_covered m_toldMany m_there m_now m_kinds m_targets m_predicates m_numbers m_puts m_codes m_weights m_sets m_picks m_classes_r m_steps m_told)) ([.ref m_a, .int v1, .int v2] : List Value).toArray s 0 0 A) (F0 m 2 ls []) := by
    intro n2
    induction n2 with
    | zero => intro i3l2 m_classesl2 H locs ls hm; exact nomatch (show none = _ from hm)
    | succ n2 ih2 =>
      intro i3l2 m_classesl2 H locs ls hm hP hD hS hl
      replace hm : mK5_isOfNow_B2 m_now v1 (mK5_isOfNow_A2 m_now v2) (mK5_isOfNow_L2 m_now v1 (mK5_isOfNow_A2 m_now v2) n2) i3l2 m_classesl2 = some (r0, m_classes_r) := hm
      unfold mK5_isOfNow_B2 at hm
      refine lv_iload_n hx hb dK5_isOfNow_2 rfl (lv_at hl 0 rfl) ?_
      refine lv_bipush (v := 12) hx hb dK5_isOfNow_3 (by decide) ?_
      refine lv_icmp_ge (tgt := 31) hx hb dK5_isOfNow_5 (by decide) (fun hc => ?_) (fun hc => ?_)
      · replace hm := ift hm hc
        exact lx2 m_classesl2 _ _ _ hm hP hD hS (lv_sub hl [1, 3] rfl)
      · replace hm := iff_ hm hc
        refine lv_aload_n hx hb dK5_isOfNow_8 rfl (lv_at hl 1 rfl) ?_
        refine va_get (D := D) (ci := 5) (v := .ref m_classes_a) (C := RK5) (T := TK5) (N := 23) hx hb hts inK5 hown hK hP 0 rfl rfl 19 (by decide) (hts _ wdt3_205) (fun _ h9 => h9) rfl dK5_isOfNow_9 ?_
        refine lv_iload_n hx hb dK5_isOfNow_12 rfl (lv_at hl 0 rfl) ?_
        refine lv_aload_n hx hb dK5_isOfNow_13 rfl (lv_at hl 1 rfl) ?_
        refine va_get (D := D) (ci := 5) (v := .ref m_now_a) (C := RK5) (T := TK5) (N := 23) hx hb hts inK5 hown hK hP 0 rfl rfl 1 (by decide) (hts _ wdt3_187) (fun _ h9 => h9) rfl dK5_isOfNow_14 ?_
        refine lv_iload_n hx hb dK5_isOfNow_17 rfl (lv_at hl 2 rfl) ?_
        refine lv_iconst (v := 0) hx hb dK5_isOfNow_18 (by decide) ?_
        refine lv_iload_n hx hb dK5_isOfNow_19 rfl (lv_at hl 0 rfl) ?_
        obtain ⟨x16, ec17, hm⟩ := bd1_s hm
        have hPc : va_P D vwCl [] H := va_P0
        have hDc : va_D A [] := va_D0
        refine k_calli0 (va_runS (As := [.int v1, .int 0, .int i3l2]) (rest := [.ref m_now_a, .int i3l2, .ref m_classes_a]) ⟨hx, hb, hml, hown, hts⟩ (kK5_codeOf l D cI cZ cB cC H.size v1 0 i3l2 x16 ec17) (va_cwS 3 hts (gdS wdt4_26 wdt4_27 wdt1_10 gkK5_codeOf) rfl rfl rfl (by decide +kernel) ⟨Nat.le_of_ble_eq_true rfl, Nat.le_of_ble_eq_true rfl⟩) ⟨Pr_blind, fun U hU hW => ⟨rfl, Pr_at hK hN hPc hDc hU hW⟩⟩ rfl rfl hl.1 rfl (lv_room (Nat.le_of_ble_eq_true rfl)) dK5_isOfNow_20 ⟨Nat.le_of_ble_eq_true rfl, Nat.le_of_ble_eq_true rfl⟩) hP hD hS hA (fun H locs hP hD hS => ?_)
        obtain ⟨x18, ex18, hm⟩ := bd1_s hm
        obtain ⟨hix18, ex18⟩ := rd_s ex18
        refine va_zald hx hb hK hP 2 1 rfl rfl hix18 dK5_isOfNow_23 ?_
        refine topi ex18 ?_
        obtain ⟨x19, ex19, hm⟩ := bd1_s hm
        obtain ⟨hix19, ex19⟩ := wrt_s ex19
        refine va_zast hx hb hK hP hD hS 12 1 rfl rfl hix19 dK5_isOfNow_24 (fun H locs hP hD hS => ?_)
        rw [ex19] at hP hD
        have hP : va_P D vwCl (wX m_a m_there_a m_now_a m_kinds_a m_targets_a m_predicates_a m_numbers_a m_puts_a m_codes_a m_weights_a m_sets_a m_picks_a m_classes_a m_steps_a m_told_a cI cZ cB cC m_rules m_changes m_mostTries m_tried m_settled m_found m_isCovered m_covered m_toldMany m_there m_now m_kinds m_targets m_predicates m_numbers m_puts m_codes m_weights m_sets m_picks x19 m_steps m_told) H := hP
        have hD : va_D A (wX m_a m_there_a m_now_a m_kinds_a m_targets_a m_predicates_a m_numbers_a m_puts_a m_codes_a m_weights_a m_sets_a m_picks_a m_classes_a m_steps_a m_told_a cI cZ cB cC m_rules m_changes m_mostTries m_tried m_settled m_found m_isCovered m_covered m_toldMany m_there m_now m_kinds m_targets m_predicates m_numbers m_puts m_codes m_weights m_sets m_picks x19 m_steps m_told) := hD
        obtain ⟨x20, ex20, hm⟩ := bd1_s hm
        refine lv_iinc (v := x20) (lv' := [(3, .int x20), (0, .ref m_a), (1, .int v1), (2, .int v2)]) hx hb dK5_isOfNow_25 hl (k := 0) rfl (by rw [← Option.some.inj ex20]; rfl) (by decide) rfl (fun ls hl => ?_)
        refine lv_goto (tgt := 2) hx hb dK5_isOfNow_28 (by decide) ?_
        exact ih2 x20 x19 _ _ _ hm hP hD hS (lv_sub hl [0, 1, 2, 3] rfl)
  exact lp2 5000 0 m_classes _ _ _ hm hP hD hS (lv_sub hl [0, 1, 2, 3] rfl)
