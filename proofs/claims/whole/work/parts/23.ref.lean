def mK5_next_A51 (m_picksx51 : Nat → Int32) : Option (Int32 × (Nat → Int32)) :=
  some (1, m_picksx51)
def mK5_next_B51 (v1 : Int32) (kx51 : (Nat → Int32) → (Option (Int32 × (Nat → Int32)))) (rc51 : Int32 → (Nat → Int32) → (Option (Int32 × (Nat → Int32)))) (i3l51 : Int32) (m_picksl51 : Nat → Int32) : Option (Int32 × (Nat → Int32)) :=
  if v1 ≤ i3l51 then
  (kx51 m_picksl51)
  else
  (bd1 (rd m_picksl51 12 (i3l51 - 1)) fun x5 => bd1 (wrt m_picksl51 12 i3l51 (x5 + 1)) fun x6 => bd1 (some (i3l51 + 1)) fun x7 => rc51 x7 x6)
def mK5_next_L51 (v1 : Int32) (kx51 : (Nat → Int32) → (Option (Int32 × (Nat → Int32)))) : Nat → Int32 → (Nat → Int32) → (Option (Int32 × (Nat → Int32)))
  | 0, _, _ => none
  | n + 1, i3l51, m_picksl51 => mK5_next_B51 v1 kx51 (mK5_next_L51 v1 kx51 n) i3l51 m_picksl51
def mK5_next_A4 (m_picks : Nat → Int32) (v1 : Int32) (i2x4 : Int32) : Option (Int32 × (Nat → Int32)) :=
  if 0 ≤ i2x4 then
  (bd1 (rd m_picks 12 i2x4) fun x2 => bd1 (wrt m_picks 12 i2x4 (x2 + 1)) fun x3 => bd1 (some (i2x4 + 1)) fun x4 => mK5_next_L51 v1 (mK5_next_A51) 5000 x4 x3)
  else
  (some (0, m_picks))
def mK5_next_B4 (m_changes : Int32) (m_picks : Nat → Int32) (v1 : Int32) (kx4 : Int32 → (Option (Int32 × (Nat → Int32)))) (rc4 : Int32 → (Option (Int32 × (Nat → Int32)))) (i2l4 : Int32) : Option (Int32 × (Nat → Int32)) :=
  if i2l4 < 0 then
  (kx4 i2l4)
  else
  (bd1 (rd m_picks 12 i2l4) fun x8 => if x8 = ((m_changes - v1) + i2l4) then
    (bd1 (some (i2l4 + (-1))) fun x9 => rc4 x9)
    else
    (kx4 i2l4))
def mK5_next_L4 (m_changes : Int32) (m_picks : Nat → Int32) (v1 : Int32) (kx4 : Int32 → (Option (Int32 × (Nat → Int32)))) : Nat → Int32 → (Option (Int32 × (Nat → Int32)))
  | 0, _ => none
  | n + 1, i2l4 => mK5_next_B4 m_changes m_picks v1 kx4 (mK5_next_L4 m_changes m_picks v1 kx4 n) i2l4
def mK5_next (m_changes : Int32) (m_picks : Nat → Int32) (v1 : Int32) : Option (Int32 × (Nat → Int32)) :=
  bd1 (some (v1 - 1)) fun x1 => mK5_next_L4 m_changes m_picks v1 (mK5_next_A4 m_picks v1) 5000 x1
abbrev rmK5_next : Room := { frames := 0, cells := 0, slots := 0, locals := 0 }
set_option maxHeartbeats 4000000 in
set_option maxRecDepth 100000 in
theorem kK5_next (l : Launch) (D : va_G) (cI cZ cB cC : ClassId) (sz : Nat) (m_a : Nat) (m_there_a : Nat) (m_now_a : Nat) (m_kinds_a : Nat) (m_targets_a : Nat) (m_predicates_a : Nat) (m_numbers_a : Nat) (m_puts_a : Nat) (m_codes_a : Nat) (m_weights_a : Nat) (m_sets_a : Nat) (m_picks_a : Nat) (m_classes_a : Nat) (m_steps_a : Nat) (m_told_a : Nat) (m_rules : Int32) (m_changes : Int32) (m_mostTries : Int32) (m_tried : Int32) (m_settled : Int32) (m_found : Int32) (m_isCovered : Int32) (m_covered : Int32) (m_toldMany : Int32) (m_there : Nat → Int32) (m_now : Nat → Int32) (m_kinds : Nat → Int32) (m_targets : Nat → Int32) (m_predicates : Nat → Int32) (m_numbers : Nat → Int32) (m_puts : Nat → Int32) (m_codes : Nat → Int32) (m_weights : Nat → Int32) (m_sets : Nat → Int32) (m_picks : Nat → Int32) (m_classes : Nat → Int32) (m_steps : Nat → Int32) (m_told : Nat → Int32) (v1 : Int32) (r0 : Int32) (m_picks_r : Nat → Int32) (hm : mK5_next m_changes m_picks v1 = some (r0, m_picks_r)) : Met l yK5_next wsK5_next rmK5_next (va_Pc [.ref m_a, .int v1] (Pr D (tyL cI cZ cB cC) sz (wX m_a m_there_a m_now_a m_kinds_a m_targets_a m_predicates_a m_numbers_a m_puts_a m_codes_a m_weights_a m_sets_a m_picks_a m_classes_a m_steps_a m_told_a cI cZ cB cC m_rules m_changes m_mostTries m_tried m_settled m_found m_isCovered m_covered m_toldMany m_there m_now m_kinds m_targets m_predicates m_numbers m_puts m_codes m_weights m_sets m_picks m_classes m_steps m_told))) (QI D (va_A (wX m_a m_there_a m_now_a m_kinds_a m_targets_a m_predicates_a m_numbers_a m_puts_a m_codes_a m_weights_a m_sets_a m_picks_a m_classes_a m_steps_a m_told_a cI cZ cB cC m_rules m_changes m_mostTries m_tried m_settled m_found m_isCovered m_covered m_toldMany m_there m_now m_kinds m_targets m_predicates m_numbers m_puts m_codes m_weights m_sets m_picks m_classes m_steps m_told) sz) r0 (wX m_a m_there_a m_now_a m_kinds_a m_targets_a m_predicates_a m_numbers_a m_puts_a m_codes_a m_weights_a m_sets_a m_picks_a m_classes_a m_steps_a m_told_a cI cZ cB cC m_rules m_changes m_mostTries m_tried m_settled m_found m_isCovered m_covered m_toldMany m_there m_now m_kinds m_targets m_predicates m_numbers m_puts m_codes m_weights m_sets m_picks_r m_classes m_steps m_told)) 0 0 (va_A (wX m_a m_there_a m_now_a m_kinds_a m_targets_a m_predicates_a m_numbers_a m_puts_a m_codes_a m_weights_a m_sets_a m_picks_a m_classes_a m_steps_a m_told_a cI cZ cB cC m_rules m_changes m_mostTries m_tried m_settled m_found m_isCovered m_covered m_toldMany m_there m_now m_kinds m_targets m_predicates m_numbers m_puts m_codes m_weights m_sets m_picks m_classes m_steps m_told) sz) := by
  refine Met.ofW (cc := cK5_next) (maxL := 4) (ret := (some .boolean)) (by decide) rfl ?_
  intro p e s m args below meth c s₁ B hml hv
  obtain ⟨rfl, hsz, hP, hK, hD0, hN⟩ := hv
  have hx := B.exec
  have hb := B.bytes
  have hr := B.returns
  have hts := htsA (atoms_spec (ws := wsK5_next) B.pre)
  have hown : s.vm.findClass RK5 = some m.cls := findClass_of_methodNamed B.named
  have hlocks := B.notSynchronized
  subst hsz
  have hD := hD0.self (sz := s.heap.size)
  generalize hAe : va_A (wX m_a m_there_a m_now_a m_kinds_a m_targets_a m_predicates_a m_numbers_a m_puts_a m_codes_a m_weights_a m_sets_a m_picks_a m_classes_a m_steps_a m_told_a cI cZ cB cC m_rules m_changes m_mostTries m_tried m_settled m_found m_isCovered m_covered m_toldMany m_there m_now m_kinds m_targets m_predicates m_numbers m_puts m_codes m_weights m_sets m_picks m_classes m_steps m_told) s.heap.size = A at hD ⊢
  have hA : ∀ q : Nat, s.heap.size ≤ q → A q := fun q h => by rw [← hAe]; exact Or.inr h
  refine kstart (A := A) hP (fun H hP hS => ?_)
  have hl := lv_entry ([.ref m_a, .int v1]) (n := 4) (Nat.le_of_ble_eq_true rfl)
  rw [lg_entry_eq]
  generalize (lg_sl ([.ref m_a, .int v1]) ++ List.replicate (4 - (lg_sl ([.ref m_a, .int v1])).length) Slot.unset).toArray = ls at hl ⊢
  have hl : lv_has ls 4 [(0, .ref m_a), (1, .int v1)] := hl
  unfold mK5_next at hm
  refine lv_iload_n hx hb dK5_next_0 rfl (lv_at hl 1 rfl) ?_
  refine lv_iconst (v := 1) hx hb dK5_next_1 (by decide) ?_
  refine lv_isub hx hb dK5_next_2 ?_
  obtain ⟨x1, ex1, hm⟩ := bd1_s hm
  refine topi (Option.some.inj ex1) ?_
  refine lv_istore_n (lv' := [(2, .int x1), (0, .ref m_a), (1, .int v1)]) hx hb dK5_next_3 rfl hl (by decide) rfl (fun ls hl => ?_)
  have lx4 : ∀ (i2x4 : Int32) (H : Heap) (locs : List Loc) (ls : Array Slot), mK5_next_A4 m_picks v1 i2x4 = some (r0, m_picks_r) → va_P D vwCl (wX m_a m_there_a m_now_a m_kinds_a m_targets_a m_predicates_a m_numbers_a m_puts_a m_codes_a m_weights_a m_sets_a m_picks_a m_classes_a m_steps_a m_told_a cI cZ cB cC m_rules m_changes m_mostTries m_tried m_settled m_found m_isCovered m_covered m_toldMany m_there m_now m_kinds m_targets m_predicates m_numbers m_puts m_codes m_weights m_sets m_picks m_classes m_steps m_told) H → va_D A (wX m_a m_there_a m_now_a m_kinds_a m_targets_a m_predicates_a m_numbers_a m_puts_a m_codes_a m_weights_a m_sets_a m_picks_a m_classes_a m_steps_a m_told_a cI cZ cB cC m_rules m_changes m_mostTries m_tried m_settled m_found m_isCovered m_covered m_toldMany m_there m_now m_kinds m_targets m_predicates m_numbers m_puts m_codes m_weights m_sets m_picks m_classes m_steps m_told) → va_S A s.heap H locs → lv_has ls 4 [(0, .ref m_a), (1, .int v1), (2, .int i2x4)] → W p l e (headSpec wsK5_next rmK5_next).room s m ([.ref m_a, .int v1] : List Value).toArray below meth c H locs 0 0 (MQ below (QI D A r0 (wX m_a m_there_a m_now_a m_kinds_a m_targets_a m_predicates_a m_numbers_a m_puts_a m_codes_a m_weights_a m_sets_a m_picks_a m_classes_a m_steps_a m_told_a cI cZ cB cC m_rules m_changes m_mostTries m_tried m_settled m_found m_isCovered m_covered m_toldMany m_there m_now m_kinds m_targets m_predicates m_numbers m_puts m_codes m_weights m_sets m_picks_r m_classes m_steps m_told)) ([.ref m_a, .int v1] : List Value).toArray s 0 0 A) (F0 m 31 ls []) := by
    intro i2x4 H locs ls hm hP hD hS hl
    unfold mK5_next_A4 at hm
    refine lv_iload_n hx hb dK5_next_31 rfl (lv_at hl 2 rfl) ?_
    refine lv_if_ge (tgt := 37) hx hb dK5_next_32 (by decide) (fun hc => ?_) (fun hc => ?_)
    · replace hm := ift hm hc
      refine lv_aload_n hx hb dK5_next_37 rfl (lv_at hl 0 rfl) ?_
      refine va_get (D := D) (ci := 5) (v := .ref m_picks_a) (C := RK5) (T := TK5) (N := 23) hx hb hts inK5 hown hK hP 0 rfl rfl 18 (by decide) (hts _ wdt3_204) (fun _ h9 => h9) rfl dK5_next_38 ?_
      refine lv_iload_n hx hb dK5_next_41 rfl (lv_at hl 2 rfl) ?_
      refine lv_dup2_11 hx hb dK5_next_42 rfl rfl ?_
      obtain ⟨x2, ex2, hm⟩ := bd1_s hm
      obtain ⟨hix2, ex2⟩ := rd_s ex2
      refine va_iald hx hb hK hP 11 0 rfl rfl hix2 dK5_next_43 ?_
      refine topi ex2 ?_
      refine lv_iconst (v := 1) hx hb dK5_next_44 (by decide) ?_
      refine lv_iadd hx hb dK5_next_45 ?_
      obtain ⟨x3, ex3, hm⟩ := bd1_s hm
      obtain ⟨hix3, ex3⟩ := wrt_s ex3
      refine va_iast hx hb hK hP hD hS 11 0 rfl rfl hix3 dK5_next_46 (fun H locs hP hD hS => ?_)
      rw [ex3] at hP hD
      have hP : va_P D vwCl (wX m_a m_there_a m_now_a m_kinds_a m_targets_a m_predicates_a m_numbers_a m_puts_a m_codes_a m_weights_a m_sets_a m_picks_a m_classes_a m_steps_a m_told_a cI cZ cB cC m_rules m_changes m_mostTries m_tried m_settled m_found m_isCovered m_covered m_toldMany m_there m_now m_kinds m_targets m_predicates m_numbers m_puts m_codes m_weights m_sets x3 m_classes m_steps m_told) H := hP
      have hD : va_D A (wX m_a m_there_a m_now_a m_kinds_a m_targets_a m_predicates_a m_numbers_a m_puts_a m_codes_a m_weights_a m_sets_a m_picks_a m_classes_a m_steps_a m_told_a cI cZ cB cC m_rules m_changes m_mostTries m_tried m_settled m_found m_isCovered m_covered m_toldMany m_there m_now m_kinds m_targets m_predicates m_numbers m_puts m_codes m_weights m_sets x3 m_classes m_steps m_told) := hD
      refine lv_iload_n hx hb dK5_next_47 rfl (lv_at hl 2 rfl) ?_
      refine lv_iconst (v := 1) hx hb dK5_next_48 (by decide) ?_
      refine lv_iadd hx hb dK5_next_49 ?_
      obtain ⟨x4, ex4, hm⟩ := bd1_s hm
      refine topi (Option.some.inj ex4) ?_
      refine lv_istore_n (lv' := [(3, .int x4), (0, .ref m_a), (1, .int v1), (2, .int i2x4)]) hx hb dK5_next_50 rfl hl (by decide) rfl (fun ls hl => ?_)
      have lx51 : ∀ (m_picksx51 : Nat → Int32) (H : Heap) (locs : List Loc) (ls : Array Slot), mK5_next_A51 m_picksx51 = some (r0, m_picks_r) → va_P D vwCl (wX m_a m_there_a m_now_a m_kinds_a m_targets_a m_predicates_a m_numbers_a m_puts_a m_codes_a m_weights_a m_sets_a m_picks_a m_classes_a m_steps_a m_told_a cI cZ cB cC m_rules m_changes m_mostTries m_tried m_settled m_found m_isCovered m_covered m_toldMany m_there m_now m_kinds m_targets m_predicates m_numbers m_puts m_codes m_weights m_sets m_picksx51 m_classes m_steps m_told) H → va_D A (wX m_a m_there_a m_now_a m_kinds_a m_targets_a m_predicates_a m_numbers_a m_puts_a m_codes_a m_weights_a m_sets_a m_picks_a m_classes_a m_steps_a m_told_a cI cZ cB cC m_rules m_changes m_mostTries m_tried m_settled m_found m_isCovered m_covered m_toldMany m_there m_now m_kinds m_targets m_predicates m_numbers m_puts m_codes m_weights m_sets m_picksx51 m_classes m_steps m_told) → va_S A s.heap H locs → lv_has ls 4 [] → W p l e (headSpec wsK5_next rmK5_next).room s m ([.ref m_a, .int v1] : List Value).toArray below meth c H locs 0 0 (MQ below (QI D A r0 (wX m_a m_there_a m_now_a m_kinds_a m_targets_a m_predicates_a m_numbers_a m_puts_a m_codes_a m_weights_a m_sets_a m_picks_a m_classes_a m_steps_a m_told_a cI cZ cB cC m_rules m_changes m_mostTries m_tried m_settled m_found m_isCovered m_covered m_toldMany m_there m_now m_kinds m_targets m_predicates m_numbers m_puts m_codes m_weights m_sets m_picks_r m_classes m_steps m_told)) ([.ref m_a, .int v1] : List Value).toArray s 0 0 A) (F0 m 78 ls []) := by
        intro m_picksx51 H locs ls hm hP hD hS hl
        unfold mK5_next_A51 at hm
        refine lv_iconst (v := 1) hx hb dK5_next_78 (by decide) ?_
        replace hm := Option.some.inj hm
        simp only [Prod.mk.injEq] at hm
        obtain ⟨rfl, rfl⟩ := hm
        exact k_retz hx hb hr hlocks rfl hP hD hS dK5_next_79
      have lp51 : ∀ (n51 : Nat) (i3l51 : Int32) (m_picksl51 : Nat → Int32) (H : Heap) (locs : List Loc) (ls : Array Slot), mK5_next_L51 v1 (mK5_next_A51) n51 i3l51 m_picksl51 = some (r0, m_picks_r) → va_P D vwCl (wX m_a m_there_a m_now_a m_kinds_a m_targets_a m_predicates_a m_numbers_a m_puts_a m_codes_a m_weights_a m_sets_a m_picks_a m_classes_a m_steps_a m_told_a cI cZ cB cC m_rules m_changes m_mostTries m_tried m_settled m_found m_isCovered m_covered m_toldMany m_there m_now m_kinds m_targets m_predicates m_numbers m_puts m_codes m_weights m_sets m_picksl51 m_classes m_steps m_told) H → va_D A (wX m_a m_there_a m_now_a m_kinds_a m_targets_a m_predicates_a m_numbers_a m_puts_a m_codes_a m_weights_a m_sets_a m_picks_a m_classes_a m_steps_a m_told_a cI cZ cB cC m_rules m_changes m_mostTries m_tried m_settled m_found m_isCovered m_covered m_toldMany m_there m_now m_kinds m_targets m_predicates m_numbers m_puts m_codes m_weights m_sets m_picksl51 m_classes m_steps m_told) → va_S A s.heap H locs → lv_has ls 4 [(3, .int i3l51), (0, .ref m_a), (1, .int v1)] → W p l e (headSpec wsK5_next rmK5_next).room s m ([.ref m_a, .int v1] : List Value).toArray below meth c H locs 0 0 (MQ below (QI D A r0 (wX m_a m_there_a m_now_a m_kinds_a m_targets_a m_predicates_a m_numbers_a m_puts_a m_codes_a m_weights_a m_sets_a m_picks_a m_classes_a m_steps_a m_told_a cI cZ cB cC m_rules m_changes m_mostTries m_tried m_settled m_found m_isCovered m_covered m_toldMany m_there m_now m_kinds m_targets m_predicates m_numbers m_puts m_codes m_weights m_sets m_picks_r m_classes m_steps m_told)) ([.ref m_a, .int v1] : List Value).toArray s 0 0 A) (F0 m 51 ls []) := by
        intro n51
        induction n51 with
        | zero => intro i3l51 m_picksl51 H locs ls hm; exact nomatch (show none = _ from hm)
        | succ n51 ih51 =>
          intro i3l51 m_picksl51 H locs ls hm hP hD hS hl
          replace hm : mK5_next_B51 v1 (mK5_next_A51) (mK5_next_L51 v1 (mK5_next_A51) n51) i3l51 m_picksl51 = some (r0, m_picks_r) := hm
          unfold mK5_next_B51 at hm
          refine lv_iload_n hx hb dK5_next_51 rfl (lv_at hl 0 rfl) ?_
          refine lv_iload_n hx hb dK5_next_52 rfl (lv_at hl 2 rfl) ?_
          refine lv_icmp_ge (tgt := 78) hx hb dK5_next_53 (by decide) (fun hc => ?_) (fun hc => ?_)
          · replace hm := ift hm hc
            exact lx51 m_picksl51 _ _ _ hm hP hD hS (lv_sub hl [] rfl)
          · replace hm := iff_ hm hc
            refine lv_aload_n hx hb dK5_next_56 rfl (lv_at hl 1 rfl) ?_
            refine va_get (D := D) (ci := 5) (v := .ref m_picks_a) (C := RK5) (T := TK5) (N := 23) hx hb hts inK5 hown hK hP 0 rfl rfl 18 (by decide) (hts _ wdt3_204) (fun _ h9 => h9) rfl dK5_next_57 ?_
            refine lv_iload_n hx hb dK5_next_60 rfl (lv_at hl 0 rfl) ?_
            refine lv_aload_n hx hb dK5_next_61 rfl (lv_at hl 1 rfl) ?_
            refine va_get (D := D) (ci := 5) (v := .ref m_picks_a) (C := RK5) (T := TK5) (N := 23) hx hb hts inK5 hown hK hP 0 rfl rfl 18 (by decide) (hts _ wdt3_204) (fun _ h9 => h9) rfl dK5_next_62 ?_
            refine lv_iload_n hx hb dK5_next_65 rfl (lv_at hl 0 rfl) ?_
            refine lv_iconst (v := 1) hx hb dK5_next_66 (by decide) ?_
            refine lv_isub hx hb dK5_next_67 ?_
            obtain ⟨x5, ex5, hm⟩ := bd1_s hm
            obtain ⟨hix5, ex5⟩ := rd_s ex5
            refine va_iald hx hb hK hP 11 0 rfl rfl hix5 dK5_next_68 ?_
            refine topi ex5 ?_
            refine lv_iconst (v := 1) hx hb dK5_next_69 (by decide) ?_
            refine lv_iadd hx hb dK5_next_70 ?_
            obtain ⟨x6, ex6, hm⟩ := bd1_s hm
            obtain ⟨hix6, ex6⟩ := wrt_s ex6
            refine va_iast hx hb hK hP hD hS 11 0 rfl rfl hix6 dK5_next_71 (fun H locs hP hD hS => ?_)
            rw [ex6] at hP hD
            have hP : va_P D vwCl (wX m_a m_there_a m_now_a m_kinds_a m_targets_a m_predicates_a m_numbers_a m_puts_a m_codes_a m_weights_a m_sets_a m_picks_a m_classes_a m_steps_a m_told_a cI cZ cB cC m_rules m_changes m_mostTries m_tried m_settled m_found m_isCovered m_covered m_toldMany m_there m_now m_kinds m_targets m_predicates m_numbers m_puts m_codes m_weights m_sets x6 m_classes m_steps m_told) H := hP
            have hD : va_D A (wX m_a m_there_a m_now_a m_kinds_a m_targets_a m_predicates_a m_numbers_a m_puts_a m_codes_a m_weights_a m_sets_a m_picks_a m_classes_a m_steps_a m_told_a cI cZ cB cC m_rules m_changes m_mostTries m_tried m_settled m_found m_isCovered m_covered m_toldMany m_there m_now m_kinds m_targets m_predicates m_numbers m_puts m_codes m_weights m_sets x6 m_classes m_steps m_told) := hD
            obtain ⟨x7, ex7, hm⟩ := bd1_s hm
            refine lv_iinc (v := x7) (lv' := [(3, .int x7), (0, .ref m_a), (1, .int v1)]) hx hb dK5_next_72 hl (k := 0) rfl (by rw [← Option.some.inj ex7]; rfl) (by decide) rfl (fun ls hl => ?_)
            refine lv_goto (tgt := 51) hx hb dK5_next_75 (by decide) ?_
            exact ih51 x7 x6 _ _ _ hm hP hD hS (lv_sub hl [0, 1, 2] rfl)
      exact lp51 5000 x4 x3 _ _ _ hm hP hD hS (lv_sub hl [0, 1, 2] rfl)
    · replace hm := iff_ hm hc
      refine lv_iconst (v := 0) hx hb dK5_next_35 (by decide) ?_
      replace hm := Option.some.inj hm
      simp only [Prod.mk.injEq] at hm
      obtain ⟨rfl, rfl⟩ := hm
      exact k_retz hx hb hr hlocks rfl hP hD hS dK5_next_36
  have lp4 : ∀ (n4 : Nat) (i2l4 : Int32) (H : Heap) (locs : List Loc) (ls : Array Slot), mK5_next_L4 m_changes m_picks v1 (mK5_next_A4 m_picks v1) n4 i2l4 = some (r0, m_picks_r) → va_P D vwCl (wX m_a m_there_a m_now_a m_kinds_a m_targets_a m_predicates_a m_numbers_a m_puts_a m_codes_a m_weights_a m_sets_a m_picks_a m_classes_a m_steps_a m_told_a cI cZ cB cC m_rules m_changes m_mostTries m_tried m_settled m_found m_isCovered m_covered m_toldMany m_there m_now m_kinds m_targets m_predicates m_numbers m_puts m_codes m_weights m_sets m_picks m_classes m_steps m_told) H → va_D A (wX m_a m_there_a m_now_a m_kinds_a m_targets_a m_predicates_a m_numbers_a m_puts_a m_codes_a m_weights_a m_sets_a m_picks_a m_classes_a m_steps_a m_told_a cI cZ cB cC m_rules m_changes m_mostTries m_tried m_settled m_found m_isCovered m_covered m_toldMany m_there m_now m_kinds m_targets m_predicates m_numbers m_puts m_codes m_weights m_sets m_picks m_classes m_steps m_told) → va_S A s.heap H locs → lv_has ls 4 [(2, .int i2l4), (0, .ref m_a), (1, .int v1)] → W p l e (headSpec wsK5_next rmK5_next).room s m ([.ref m_a, .int v1] : List Value).toArray below meth c H locs 0 0 (MQ below (QI D A r0 (wX m_a m_there_a m_now_a m_kinds_a m_targets_a m_predicates_a m_numbers_a m_puts_a m_codes_a m_weights_a m_sets_a m_picks_a m_classes_a m_steps_a m_told_a cI cZ cB cC m_rules m_changes m_mostTries m_tried m_settled m_found m_isCovered m_covered m_toldMany m_there m_now m_kinds m_targets m_predicates m_numbers m_puts m_codes m_weights m_sets m_picks_r m_classes m_steps m_told)) ([.ref m_a, .int v1] : List Value).toArray s 0 0 A) (F0 m 4 ls []) := by
    intro n4
    induction n4 with
    | zero => intro i2l4 H locs ls hm; exact nomatch (show none = _ from hm)
    | succ n4 ih4 =>
      intro i2l4 H locs ls hm hP hD hS hl
      replace hm : mK5_next_B4 m_changes m_picks v1 (mK5_next_A4 m_picks v1) (mK5_next_L4 m_changes m_picks v1 (mK5_next_A4 m_picks v1) n4) i2l4 = some (r0, m_picks_r) := hm
      unfold mK5_next_B4 at hm
      refine lv_iload_n hx hb dK5_next_4 rfl (lv_at hl 0 rfl) ?_
      refine lv_if_lt (tgt := 31) hx hb dK5_next_5 (by decide) (fun hc => ?_) (fun hc => ?_)
      · replace hm := ift hm hc
        exact lx4 i2l4 _ _ _ hm hP hD hS (lv_sub hl [1, 2, 0] rfl)
      · replace hm := iff_ hm hc
        refine lv_aload_n hx hb dK5_next_8 rfl (lv_at hl 1 rfl) ?_
        refine va_get (D := D) (ci := 5) (v := .ref m_picks_a) (C := RK5) (T := TK5) (N := 23) hx hb hts inK5 hown hK hP 0 rfl rfl 18 (by decide) (hts _ wdt3_204) (fun _ h9 => h9) rfl dK5_next_9 ?_
        refine lv_iload_n hx hb dK5_next_12 rfl (lv_at hl 0 rfl) ?_
        obtain ⟨x8, ex8, hm⟩ := bd1_s hm
        obtain ⟨hix8, ex8⟩ := rd_s ex8
        refine va_iald hx hb hK hP 11 0 rfl rfl hix8 dK5_next_13 ?_
        refine topi ex8 ?_
        refine lv_aload_n hx hb dK5_next_14 rfl (lv_at hl 1 rfl) ?_
        refine va_get (D := D) (ci := 5) (v := .int m_changes) (C := RK5) (T := TK5) (N := 23) hx hb hts inK5 hown hK hP 0 rfl rfl 7 (by decide) (hts _ wdt3_193) (fun _ h9 => h9) rfl dK5_next_15 ?_
        refine lv_iload_n hx hb dK5_next_18 rfl (lv_at hl 2 rfl) ?_
        refine lv_isub hx hb dK5_next_19 ?_
        refine lv_iload_n hx hb dK5_next_20 rfl (lv_at hl 0 rfl) ?_
        refine lv_iadd hx hb dK5_next_21 ?_
        refine lv_icmp_ne (tgt := 31) hx hb dK5_next_22 (by decide) (fun hc => ?_) (fun hc => ?_)
        · replace hm := iff_ hm hc
          exact lx4 i2l4 _ _ _ hm hP hD hS (lv_sub hl [1, 2, 0] rfl)
        · replace hm := ift hm hc
          obtain ⟨x9, ex9, hm⟩ := bd1_s hm
          refine lv_iinc (v := x9) (lv' := [(2, .int x9), (0, .ref m_a), (1, .int v1)]) hx hb dK5_next_25 hl (k := 0) rfl (by rw [← Option.some.inj ex9]; rfl) (by decide) rfl (fun ls hl => ?_)
          refine lv_goto (tgt := 4) hx hb dK5_next_28 (by decide) ?_
          exact ih4 x9 _ _ _ hm hP hD hS (lv_sub hl [0, 1, 2] rfl)
  exact lp4 5000 x1 _ _ _ hm hP hD hS (lv_sub hl [0, 1, 2] rfl)
def mK5_weightOf_A4 (i2x4 : Int32) : Option (Int32) :=
  some i2x4
def mK5_weightOf_B4 (m_weights : Nat → Int32) (v1 : Int32) (kx4 : Int32 → Option (Int32)) (rc4 : Int32 → Int32 → Option (Int32)) (i2l4 : Int32) (i3l4 : Int32) : Option (Int32) :=
  if 12 ≤ i3l4 then
  (kx4 i2l4)
  else
  (if ((v1 >>> (i3l4 &&& 31)) &&& 1) = 1 then
    (bd1 (rd m_weights 12 i3l4) fun x3 => bd1 (some (i2l4 + x3)) fun x4 => bd1 (some (i3l4 + 1)) fun x5 => rc4 x4 x5)
    else
    (bd1 (some (i2l4 + 0)) fun x1 => bd1 (some (i3l4 + 1)) fun x2 => rc4 x1 x2))
def mK5_weightOf_L4 (m_weights : Nat → Int32) (v1 : Int32) (kx4 : Int32 → Option (Int32)) : Nat → Int32 → Int32 → Option (Int32)
  | 0, _, _ => none
  | n + 1, i2l4, i3l4 => mK5_weightOf_B4 m_weights v1 kx4 (mK5_weightOf_L4 m_weights v1 kx4 n) i2l4 i3l4
def mK5_weightOf (m_weights : Nat → Int32) (v1 : Int32) : Option (Int32) :=
  mK5_weightOf_L4 m_weights v1 (mK5_weightOf_A4) 5000 0 0
abbrev rmK5_weightOf : Room := { frames := 0, cells := 0, slots := 0, locals := 0 }
set_option maxHeartbeats 4000000 in
set_option maxRecDepth 100000 in
theorem kK5_weightOf (l : Launch) (D : va_G) (cI cZ cB cC : ClassId) (sz : Nat) (m_a : Nat) (m_there_a : Nat) (m_now_a : Nat) (m_kinds_a : Nat) (m_targets_a : Nat) (m_predicates_a : Nat) (m_numbers_a : Nat) (m_puts_a : Nat) (m_codes_a : Nat) (m_weights_a : Nat) (m_sets_a : Nat) (m_picks_a : Nat) (m_classes_a : Nat) (m_steps_a : Nat) (m_told_a : Nat) (m_rules : Int32) (m_changes : Int32) (m_mostTries : Int32) (m_tried : Int32) (m_settled : Int32) (m_found : Int32) (m_isCovered : Int32) (m_covered : Int32) (m_toldMany : Int32) (m_there : Nat → Int32) (m_now : Nat → Int32) (m_kinds : Nat → Int32) (m_targets : Nat → Int32) (m_predicates : Nat → Int32) (m_numbers : Nat → Int32) (m_puts : Nat → Int32) (m_codes : Nat → Int32) (m_weights : Nat → Int32) (m_sets : Nat → Int32) (m_picks : Nat → Int32) (m_classes : Nat → Int32) (m_steps : Nat → Int32) (m_told : Nat → Int32) (v1 : Int32) (r0 : Int32) (hm : mK5_weightOf m_weights v1 = some r0) : Met l yK5_weightOf wsK5_weightOf rmK5_weightOf (va_Pc [.ref m_a, .int v1] (Pr D (tyL cI cZ cB cC) sz (wX m_a m_there_a m_now_a m_kinds_a m_targets_a m_predicates_a m_numbers_a m_puts_a m_codes_a m_weights_a m_sets_a m_picks_a m_classes_a m_steps_a m_told_a cI cZ cB cC m_rules m_changes m_mostTries m_tried m_settled m_found m_isCovered m_covered m_toldMany m_there m_now m_kinds m_targets m_predicates m_numbers m_puts m_codes m_weights m_sets m_picks m_classes m_steps m_told))) (QI D (va_A (wX m_a m_there_a m_now_a m_kinds_a m_targets_a m_predicates_a m_numbers_a m_puts_a m_codes_a m_weights_a m_sets_a m_picks_a m_classes_a m_steps_a m_told_a cI cZ cB cC m_rules m_changes m_mostTries m_tried m_settled m_found m_isCovered m_covered m_toldMany m_there m_now m_kinds m_targets m_predicates m_numbers m_puts m_codes m_weights m_sets m_picks m_classes m_steps m_told) sz) r0 (wX m_a m_there_a m_now_a m_kinds_a m_targets_a m_predicates_a m_numbers_a m_puts_a m_codes_a m_weights_a m_sets_a m_picks_a m_classes_a m_steps_a m_told_a cI cZ cB cC m_rules m_changes m_mostTries m_tried m_settled m_found m_isCovered m_covered m_toldMany m_there m_now m_kinds m_targets m_predicates m_numbers m_puts m_codes m_weights m_sets m_picks m_classes m_steps m_told)) 0 0 (va_A (wX m_a m_there_a m_now_a m_kinds_a m_targets_a m_predicates_a m_numbers_a m_puts_a m_codes_a m_weights_a m_sets_a m_picks_a m_classes_a m_steps_a m_told_a cI cZ cB cC m_rules m_changes m_mostTries m_tried m_settled m_found m_isCovered m_covered m_toldMany m_there m_now m_kinds m_targets m_predicates m_numbers m_puts m_codes m_weights m_sets m_picks m_classes m_steps m_told) sz) := by
  refine Met.ofW (cc := cK5_weightOf) (maxL := 4) (ret := (some .int)) (by decide) rfl ?_
  intro p e s m args below meth c s₁ B hml hv
  obtain ⟨rfl, hsz, hP, hK, hD0, hN⟩ := hv
  have hx := B.exec
  have hb := B.bytes
  have hr := B.returns
  have hts := htsA (atoms_spec (ws := wsK5_weightOf) B.pre)
  have hown : s.vm.findClass RK5 = some m.cls := findClass_of_methodNamed B.named
  have hlocks := B.notSynchronized
  subst hsz
  have hD := hD0.self (sz := s.heap.size)
  generalize hAe : va_A (wX m_a m_there_a m_now_a m_kinds_a m_targets_a m_predicates_a m_numbers_a m_puts_a m_codes_a m_weights_a m_sets_a m_picks_a m_classes_a m_steps_a m_told_a cI cZ cB cC m_rules m_changes m_mostTries m_tried m_settled m_found m_isCovered m_covered m_toldMany m_there m_now m_kinds m_targets m_predicates m_numbers m_puts m_codes m_weights m_sets m_picks m_classes m_steps m_told) s.heap.size = A at hD ⊢
  have hA : ∀ q : Nat, s.heap.size ≤ q → A q := fun q h => by rw [← hAe]; exact Or.inr h
  refine kstart (A := A) hP (fun H hP hS => ?_)
  have hl := lv_entry ([.ref m_a, .int v1]) (n := 4) (Nat.le_of_ble_eq_true rfl)
  rw [lg_entry_eq]
  generalize (lg_sl ([.ref m_a, .int v1]) ++ List.replicate (4 - (lg_sl ([.ref m_a, .int v1])).length) Slot.unset).toArray = ls at hl ⊢
  have hl : lv_has ls 4 [(0, .ref m_a), (1, .int v1)] := hl
  unfold mK5_weightOf at hm
  refine lv_iconst (v := 0) hx hb dK5_weightOf_0 (by decide) ?_
  refine lv_istore_n (lv' := [(2, .int 0), (0, .ref m_a), (1, .int v1)]) hx hb dK5_weightOf_1 rfl hl (by decide) rfl (fun ls hl => ?_)
  refine lv_iconst (v := 0) hx hb dK5_weightOf_2 (by decide) ?_
  refine lv_istore_n (lv' := [(3, .int 0), (2, .int 0), (0, .ref m_a), (1, .int v1)]) hx hb dK5_weightOf_3 rfl hl (by decide) rfl (fun ls hl => ?_)
  have lx4 : ∀ (i2x4 : Int32) (H : Heap) (locs : List Loc) (ls : Array Slot), mK5_weightOf_A4 i2x4 = some r0 → va_P D vwCl (wX m_a m_there_a m_now_a m_kinds_a m_targets_a m_predicates_a m_numbers_a m_puts_a m_codes_a m_weights_a m_sets_a m_picks_a m_classes_a m_steps_a m_told_a cI cZ cB cC m_rules m_changes m_mostTries m_tried m_settled m_found m_isCovered m_covered m_toldMany m_there m_now m_kinds m_targets m_predicates m_numbers m_puts m_codes m_weights m_sets m_picks m_classes m_steps m_told) H → va_D A (wX m_a m_there_a m_now_a m_kinds_a m_targets_a m_predicates_a m_numbers_a m_puts_a m_codes_a m_weights_a m_sets_a m_picks_a m_classes_a m_steps_a m_told_a cI cZ cB cC m_rules m_changes m_mostTries m_tried m_settled m_found m_isCovered m_covered m_toldMany m_there m_now m_kinds m_targets m_predicates m_numbers m_puts m_codes m_weights m_sets m_picks m_classes m_steps m_told) → va_S A s.heap H locs → lv_has ls 4 [(2, .int i2x4)] → W p l e (headSpec wsK5_weightOf rmK5_weightOf).room s m ([.ref m_a, .int v1] : List Value).toArray below meth c H locs 0 0 (MQ below (QI D A r0 (wX m_a m_there_a m_now_a m_kinds_a m_targets_a m_predicates_a m_numbers_a m_puts_a m_codes_a m_weights_a m_sets_a m_picks_a m_classes_a m_steps_a m_told_a cI cZ cB cC m_rules m_changes m_mostTries m_tried m_settled m_found m_isCovered m_covered m_toldMany m_there m_now m_kinds m_targets m_predicates m_numbers m_puts m_codes m_weights m_sets m_picks m_classes m_steps m_told)) ([.ref m_a, .int v1] : List Value).toArray s 0 0 A) (F0 m 38 ls []) := by
    intro i2x4 H locs ls hm hP hD hS hl
    unfold mK5_weightOf_A4 at hm
    refine lv_iload_n hx hb dK5_weightOf_38 rfl (lv_at hl 0 rfl) ?_
    replace hm := Option.some.inj hm
    subst hm
    exact k_reti hx hb hr hlocks hP hD hS dK5_weightOf_39
  have lp4 : ∀ (n4 : Nat) (i2l4 : Int32) (i3l4 : Int32) (H : Heap) (locs : List Loc) (ls : Array Slot), mK5_weightOf_L4 m_weights v1 (mK5_weightOf_A4) n4 i2l4 i3l4 = some r0 → va_P D vwCl (wX m_a m_there_a m_now_a m_kinds_a m_targets_a m_predicates_a m_numbers_a m_puts_a m_codes_a m_weights_a m_sets_a m_picks_a m_classes_a m_steps_a m_told_a cI cZ cB cC m_rules m_changes m_mostTries m_tried m_settled m_found m_isCovered m_covered m_toldMany m_there m_now m_kinds m_targets m_predicates m_numbers m_puts m_codes m_weights m_sets m_picks m_classes m_steps m_told) H → va_D A (wX m_a m_there_a m_now_a m_kinds_a m_targets_a m_predicates_a m_numbers_a m_puts_a m_codes_a m_weights_a m_sets_a m_picks_a m_classes_a m_steps_a m_told_a cI cZ cB cC m_rules m_changes m_mostTries m_tried m_settled m_found m_isCovered m_covered m_toldMany m_there m_now m_kinds m_targets m_predicates m_numbers m_puts m_codes m_weights m_sets m_picks m_classes m_steps m_told) → va_S A s.heap H locs → lv_has ls 4 [(3, .int i3l4), (2, .int i2l4), (0, .ref m_a), (1, .int v1)] → W p l e (headSpec wsK5_weightOf rmK5_weightOf).room s m ([.ref m_a, .int v1] : List Value).toArray below meth c H locs 0 0 (MQ below (QI D A r0 (wX m_a m_there_a m_now_a m_kinds_a m_targets_a m_predicates_a m_numbers_a m_puts_a m_codes_a m_weights_a m_sets_a m_picks_a m_classes_a m_steps_a m_told_a cI cZ cB cC m_rules m_changes m_mostTries m_tried m_settled m_found m_isCovered m_covered m_toldMany m_there m_now m_kinds m_targets m_predicates m_numbers m_puts m_codes m_weights m_sets m_picks m_classes m_steps m_told)) ([.ref m_a, .int v1] : List Value).toArray s 0 0 A) (F0 m 4 ls []) := by
    intro n4
    induction n4 with
    | zero => intro i2l4 i3l4 H locs ls hm; exact nomatch (show none = _ from hm)
    | succ n4 ih4 =>
      intro i2l4 i3l4 H locs ls hm hP hD hS hl
      replace hm : mK5_weightOf_B4 m_weights v1 (mK5_weightOf_A4) (mK5_weightOf_L4 m_weights v1 (mK5_weightOf_A4) n4) i2l4 i3l4 = some r0 := hm
      unfold mK5_weightOf_B4 at hm
      refine lv_iload_n hx hb dK5_weightOf_4 rfl (lv_at hl 0 rfl) ?_
      refine lv_bipush (v := 12) hx hb dK5_weightOf_5 (by decide) ?_
      refine lv_icmp_ge (tgt := 38) hx hb dK5_weightOf_7 (by decide) (fun hc => ?_) (fun hc => ?_)
      · replace hm := ift hm hc
        exact lx4 i2l4 _ _ _ hm hP hD hS (lv_sub hl [1] rfl)
      · replace hm := iff_ hm hc
        refine lv_iload_n hx hb dK5_weightOf_10 rfl (lv_at hl 1 rfl) ?_
        refine lv_iload_n hx hb dK5_weightOf_11 rfl (lv_at hl 3 rfl) ?_
        refine lv_iload_n hx hb dK5_weightOf_12 rfl (lv_at hl 0 rfl) ?_
        refine lv_ishr hx hb dK5_weightOf_13 ?_
        refine lv_iconst (v := 1) hx hb dK5_weightOf_14 (by decide) ?_
        refine lv_iand hx hb dK5_weightOf_15 ?_
        refine lv_iconst (v := 1) hx hb dK5_weightOf_16 (by decide) ?_
        refine lv_icmp_ne (tgt := 29) hx hb dK5_weightOf_17 (by decide) (fun hc => ?_) (fun hc => ?_)
        · replace hm := iff_ hm hc
          refine lv_iconst (v := 0) hx hb dK5_weightOf_29 (by decide) ?_
          refine lv_iadd hx hb dK5_weightOf_30 ?_
          obtain ⟨x1, ex1, hm⟩ := bd1_s hm
          refine topi (Option.some.inj ex1) ?_
          refine lv_istore_n (lv' := [(2, .int x1), (3, .int i3l4), (0, .ref m_a), (1, .int v1)]) hx hb dK5_weightOf_31 rfl hl (by decide) rfl (fun ls hl => ?_)
          obtain ⟨x2, ex2, hm⟩ := bd1_s hm
          refine lv_iinc (v := x2) (lv' := [(3, .int x2), (2, .int x1), (0, .ref m_a), (1, .int v1)]) hx hb dK5_weightOf_32 hl (k := 1) rfl (by rw [← Option.some.inj ex2]; rfl) (by decide) rfl (fun ls hl => ?_)
          refine lv_goto (tgt := 4) hx hb dK5_weightOf_35 (by decide) ?_
          exact ih4 x1 x2 _ _ _ hm hP hD hS (lv_sub hl [0, 1, 2, 3] rfl)
        · replace hm := ift hm hc
          refine lv_aload_n hx hb dK5_weightOf_20 rfl (lv_at hl 2 rfl) ?_
          refine va_get (D := D) (ci := 5) (v := .ref m_weights_a) (C := RK5) (T := TK5) (N := 23) hx hb hts inK5 hown hK hP 0 rfl rfl 10 (by decide) (hts _ wdt3_196) (fun _ h9 => h9) rfl dK5_weightOf_21 ?_
          refine lv_iload_n hx hb dK5_weightOf_24 rfl (lv_at hl 0 rfl) ?_
          obtain ⟨x3, ex3, hm⟩ := bd1_s hm
          obtain ⟨hix3, ex3⟩ := rd_s ex3
          refine va_iald hx hb hK hP 9 0 rfl rfl hix3 dK5_weightOf_25 ?_
          refine topi ex3 ?_
          refine lv_goto (tgt := 30) hx hb dK5_weightOf_26 (by decide) ?_
          refine lv_iadd hx hb dK5_weightOf_30 ?_
          obtain ⟨x4, ex4, hm⟩ := bd1_s hm
          refine topi (Option.some.inj ex4) ?_
          refine lv_istore_n (lv' := [(2, .int x4), (3, .int i3l4), (0, .ref m_a), (1, .int v1)]) hx hb dK5_weightOf_31 rfl hl (by decide) rfl (fun ls hl => ?_)
          obtain ⟨x5, ex5, hm⟩ := bd1_s hm
          refine lv_iinc (v := x5) (lv' := [(3, .int x5), (2, .int x4), (0, .ref m_a), (1, .int v1)]) hx hb dK5_weightOf_32 hl (k := 1) rfl (by rw [← Option.some.inj ex5]; rfl) (by decide) rfl (fun ls hl => ?_)
          refine lv_goto (tgt := 4) hx hb dK5_weightOf_35 (by decide) ?_
          exact ih4 x4 x5 _ _ _ hm hP hD hS (lv_sub hl [0, 1, 2, 3] rfl)
  exact lp4 5000 0 0 _ _ _ hm hP hD hS (lv_sub hl [0, 1, 2, 3] rfl)
def mK5_sizeOf_A4 (i1x4 : Int32) : Option (Int32) :=
  some i1x4
def mK5_sizeOf_B4 (v0 : Int32) (kx4 : Int32 → Option (Int32)) (rc4 : Int32 → Int32 → Option (Int32)) (i1l4 : Int32) (i2l4 : Int32) : Option (Int32) :=
  if 12 ≤ i2l4 then
  (kx4 i1l4)
  else
  (bd1 (some (i1l4 + ((v0 >>> (i2l4 &&& 31)) &&& 1))) fun x1 => bd1 (some (i2l4 + 1)) fun x2 => rc4 x1 x2)
def mK5_sizeOf_L4 (v0 : Int32) (kx4 : Int32 → Option (Int32)) : Nat → Int32 → Int32 → Option (Int32)
  | 0, _, _ => none
  | n + 1, i1l4, i2l4 => mK5_sizeOf_B4 v0 kx4 (mK5_sizeOf_L4 v0 kx4 n) i1l4 i2l4
def mK5_sizeOf (v0 : Int32) : Option (Int32) :=
  mK5_sizeOf_L4 v0 (mK5_sizeOf_A4) 5000 0 0
abbrev rmK5_sizeOf : Room := { frames := 0, cells := 0, slots := 0, locals := 0 }
set_option maxHeartbeats 4000000 in
set_option maxRecDepth 100000 in
theorem kK5_sizeOf (l : Launch) (D : va_G) (cI cZ cB cC : ClassId) (sz : Nat) (v0 : Int32) (r0 : Int32) (hm : mK5_sizeOf v0 = some r0) : Met l yK5_sizeOf wsK5_sizeOf rmK5_sizeOf (va_Pc [.int v0] (Pr D (tyL cI cZ cB cC) sz [])) (QI D (va_A [] sz) r0 []) 0 0 (va_A [] sz) := by
  refine Met.ofW (cc := cK5_sizeOf) (maxL := 3) (ret := (some .int)) (by decide) rfl ?_
  intro p e s m args below meth c s₁ B hml hv
  obtain ⟨rfl, hsz, hP, hK, hD0, hN⟩ := hv
  have hx := B.exec
  have hb := B.bytes
  have hr := B.returns
  have hts := htsA (atoms_spec (ws := wsK5_sizeOf) B.pre)
  have hown : s.vm.findClass RK5 = some m.cls := findClass_of_methodNamed B.named
  have hlocks := B.notSynchronized
  subst hsz
  have hD := hD0.self (sz := s.heap.size)
  generalize hAe : va_A [] s.heap.size = A at hD ⊢
  have hA : ∀ q : Nat, s.heap.size ≤ q → A q := fun q h => by rw [← hAe]; exact Or.inr h
  refine kstart (A := A) hP (fun H hP hS => ?_)
  have hl := lv_entry ([.int v0]) (n := 3) (Nat.le_of_ble_eq_true rfl)
  rw [lg_entry_eq]
  generalize (lg_sl ([.int v0]) ++ List.replicate (3 - (lg_sl ([.int v0])).length) Slot.unset).toArray = ls at hl ⊢
  have hl : lv_has ls 3 [(0, .int v0)] := hl
  unfold mK5_sizeOf at hm
  refine lv_iconst (v := 0) hx hb dK5_sizeOf_0 (by decide) ?_
  refine lv_istore_n (lv' := [(1, .int 0), (0, .int v0)]) hx hb dK5_sizeOf_1 rfl hl (by decide) rfl (fun ls hl => ?_)
  refine lv_iconst (v := 0) hx hb dK5_sizeOf_2 (by decide) ?_
  refine lv_istore_n (lv' := [(2, .int 0), (1, .int 0), (0, .int v0)]) hx hb dK5_sizeOf_3 rfl hl (by decide) rfl (fun ls hl => ?_)
  have lx4 : ∀ (i1x4 : Int32) (H : Heap) (locs : List Loc) (ls : Array Slot), mK5_sizeOf_A4 i1x4 = some r0 → va_P D vwCl [] H → va_D A [] → va_S A s.heap H locs → lv_has ls 3 [(1, .int i1x4)] → W p l e (headSpec wsK5_sizeOf rmK5_sizeOf).room s m ([.int v0] : List Value).toArray below meth c H locs 0 0 (MQ below (QI D A r0 []) ([.int v0] : List Value).toArray s 0 0 A) (F0 m 24 ls []) := by
    intro i1x4 H locs ls hm hP hD hS hl
    unfold mK5_sizeOf_A4 at hm
    refine lv_iload_n hx hb dK5_sizeOf_24 rfl (lv_at hl 0 rfl) ?_
    replace hm := Option.some.inj hm
    subst hm
    exact k_reti hx hb hr hlocks hP hD hS dK5_sizeOf_25
  have lp4 : ∀ (n4 : Nat) (i1l4 : Int32) (i2l4 : Int32) (H : Heap) (locs : List Loc) (ls : Array Slot), mK5_sizeOf_L4 v0 (mK5_sizeOf_A4) n4 i1l4 i2l4 = some r0 → va_P D vwCl [] H → va_D A [] → va_S A s.heap H locs → lv_has ls 3 [(2, .int i2l4), (1, .int i1l4), (0, .int v0)] → W p l e (headSpec wsK5_sizeOf rmK5_sizeOf).room s m ([.int v0] : List Value).toArray below meth c H locs 0 0 (MQ below (QI D A r0 []) ([.int v0] : List Value).toArray s 0 0 A) (F0 m 4 ls []) := by
    intro n4
    induction n4 with
    | zero => intro i1l4 i2l4 H locs ls hm; exact nomatch (show none = _ from hm)
    | succ n4 ih4 =>
      intro i1l4 i2l4 H locs ls hm hP hD hS hl
      replace hm : mK5_sizeOf_B4 v0 (mK5_sizeOf_A4) (mK5_sizeOf_L4 v0 (mK5_sizeOf_A4) n4) i1l4 i2l4 = some r0 := hm
      unfold mK5_sizeOf_B4 at hm
      refine lv_iload_n hx hb dK5_sizeOf_4 rfl (lv_at hl 0 rfl) ?_
      refine lv_bipush (v := 12) hx hb dK5_sizeOf_5 (by decide) ?_
      refine lv_icmp_ge (tgt := 24) hx hb dK5_sizeOf_7 (by decide) (fun hc => ?_) (fun hc => ?_)
      · replace hm := ift hm hc
        exact lx4 i1l4 _ _ _ hm hP hD hS (lv_sub hl [1] rfl)
      · replace hm := iff_ hm hc
        refine lv_iload_n hx hb dK5_sizeOf_10 rfl (lv_at hl 1 rfl) ?_
        refine lv_iload_n hx hb dK5_sizeOf_11 rfl (lv_at hl 2 rfl) ?_
        refine lv_iload_n hx hb dK5_sizeOf_12 rfl (lv_at hl 0 rfl) ?_
        refine lv_ishr hx hb dK5_sizeOf_13 ?_
        refine lv_iconst (v := 1) hx hb dK5_sizeOf_14 (by decide) ?_
        refine lv_iand hx hb dK5_sizeOf_15 ?_
        refine lv_iadd hx hb dK5_sizeOf_16 ?_
        obtain ⟨x1, ex1, hm⟩ := bd1_s hm
        refine topi (Option.some.inj ex1) ?_
        refine lv_istore_n (lv' := [(1, .int x1), (2, .int i2l4), (0, .int v0)]) hx hb dK5_sizeOf_17 rfl hl (by decide) rfl (fun ls hl => ?_)
        obtain ⟨x2, ex2, hm⟩ := bd1_s hm
        refine lv_iinc (v := x2) (lv' := [(2, .int x2), (1, .int x1), (0, .int v0)]) hx hb dK5_sizeOf_18 hl (k := 1) rfl (by rw [← Option.some.inj ex2]; rfl) (by decide) rfl (fun ls hl => ?_)
        refine lv_goto (tgt := 4) hx hb dK5_sizeOf_21 (by decide) ?_
        exact ih4 x1 x2 _ _ _ hm hP hD hS (lv_sub hl [0, 1, 2] rfl)
  exact lp4 5000 0 0 _ _ _ hm hP hD hS (lv_sub hl [0, 1, 2] rfl)
def mK5_sort_A2 (m_setsx2 : Nat → Int32) : Option ((Nat → Int32)) :=
  some m_setsx2
def mK5_sort_A34 (i1l2 : Int32) (rc2 : Int32 → (Nat → Int32) → (Option ((Nat → Int32)))) (x1 : Int32) (i4x34 : Int32) (m_setsx34 : Nat → Int32) : Option ((Nat → Int32)) :=
  bd1 (wrt m_setsx34 31 i4x34 x1) fun x7 => bd1 (some (i1l2 + 1)) fun x8 => rc2 x8 x7
def mK5_sort_B34 (m_weights : Nat → Int32) (x6 : Int32) (kx34 : Int32 → (Nat → Int32) → (Option ((Nat → Int32)))) (rc34 : Int32 → (Nat → Int32) → (Option ((Nat → Int32)))) (i4l34 : Int32) (m_setsl34 : Nat → Int32) : Option ((Nat → Int32)) :=
  if i4l34 ≤ 0 then
  (kx34 i4l34 m_setsl34)
  else
  (bd1 (rd m_setsl34 31 (i4l34 - 1)) fun x9 => bd1 (mK5_weightOf m_weights x9) fun x10 => bd1 (rd m_setsl34 31 (i4l34 - 1)) fun x12 => bd1 (mK5_sizeOf x12) fun x13 => if ((100 * x10) + x13) ≤ x6 then
    (kx34 i4l34 m_setsl34)
    else
    (bd1 (rd m_setsl34 31 (i4l34 - 1)) fun x15 => bd1 (wrt m_setsl34 31 i4l34 x15) fun x16 => bd1 (some (i4l34 + (-1))) fun x17 => rc34 x17 x16))
def mK5_sort_L34 (m_weights : Nat → Int32) (x6 : Int32) (kx34 : Int32 → (Nat → Int32) → (Option ((Nat → Int32)))) : Nat → Int32 → (Nat → Int32) → (Option ((Nat → Int32)))
  | 0, _, _ => none
  | n + 1, i4l34, m_setsl34 => mK5_sort_B34 m_weights x6 kx34 (mK5_sort_L34 m_weights x6 kx34 n) i4l34 m_setsl34
def mK5_sort_B2 (m_found : Int32) (m_weights : Nat → Int32) (kx2 : (Nat → Int32) → (Option ((Nat → Int32)))) (rc2 : Int32 → (Nat → Int32) → (Option ((Nat → Int32)))) (i1l2 : Int32) (m_setsl2 : Nat → Int32) : Option ((Nat → Int32)) :=
  if m_found ≤ i1l2 then
  (kx2 m_setsl2)
  else
  (bd1 (rd m_setsl2 31 i1l2) fun x1 => bd1 (mK5_weightOf m_weights x1) fun x2 => bd1 (mK5_sizeOf x1) fun x4 => bd1 (some ((100 * x2) + x4)) fun x6 => mK5_sort_L34 m_weights x6 (mK5_sort_A34 i1l2 rc2 x1) 5000 i1l2 m_setsl2)
def mK5_sort_L2 (m_found : Int32) (m_weights : Nat → Int32) (kx2 : (Nat → Int32) → (Option ((Nat → Int32)))) : Nat → Int32 → (Nat → Int32) → (Option ((Nat → Int32)))
  | 0, _, _ => none
  | n + 1, i1l2, m_setsl2 => mK5_sort_B2 m_found m_weights kx2 (mK5_sort_L2 m_found m_weights kx2 n) i1l2 m_setsl2
def mK5_sort (m_found : Int32) (m_weights : Nat → Int32) (m_sets : Nat → Int32) : Option ((Nat → Int32)) :=
  mK5_sort_L2 m_found m_weights (mK5_sort_A2) 5000 1 m_sets
abbrev rmK5_sort : Room := { frames := 1, cells := 0, slots := 0, locals := 23 }
set_option maxHeartbeats 4000000 in
set_option maxRecDepth 100000 in
theorem kK5_sort (l : Launch) (D : va_G) (cI cZ cB cC : ClassId) (sz : Nat) (m_a : Nat) (m_there_a : Nat) (m_now_a : Nat) (m_kinds_a : Nat) (m_targets_a : Nat) (m_predicates_a : Nat) (m_numbers_a : Nat) (m_puts_a : Nat) (m_codes_a : Nat) (m_weights_a : Nat) (m_sets_a : Nat) (m_picks_a : Nat) (m_classes_a : Nat) (m_steps_a : Nat) (m_told_a : Nat) (m_rules : Int32) (m_changes : Int32) (m_mostTries : Int32) (m_tried : Int32) (m_settled : Int32) (m_found : Int32) (m_isCovered : Int32) (m_covered : Int32) (m_toldMany : Int32) (m_there : Nat → Int32) (m_now : Nat → Int32) (m_kinds : Nat → Int32) (m_targets : Nat → Int32) (m_predicates : Nat → Int32) (m_numbers : Nat → Int32) (m_puts : Nat → Int32) (m_codes : Nat → Int32) (m_weights : Nat → Int32) (m_sets : Nat → Int32) (m_picks : Nat → Int32) (m_classes : Nat → Int32) (m_steps : Nat → Int32) (m_told : Nat → Int32) (m_sets_r : Nat → Int32) (hm : mK5_sort m_found m_weights m_sets = some m_sets_r) : Met l yK5_sort wsK5_sort rmK5_sort (va_Pc [.ref m_a] (Pr D (tyL cI cZ cB cC) sz (wX m_a m_there_a m_now_a m_kinds_a m_targets_a m_predicates_a m_numbers_a m_puts_a m_codes_a m_weights_a m_sets_a m_picks_a m_classes_a m_steps_a m_told_a cI cZ cB cC m_rules m_changes m_mostTries m_tried m_settled m_found m_isCovered m_covered m_toldMany m_there m_now m_kinds m_targets m_predicates m_numbers m_puts m_codes m_weights m_sets m_picks m_classes m_steps m_told))) (QV D (va_A (wX m_a m_there_a m_now_a m_kinds_a m_targets_a m_predicates_a m_numbers_a m_puts_a m_codes_a m_weights_a m_sets_a m_picks_a m_classes_a m_steps_a m_told_a cI cZ cB cC m_rules m_changes m_mostTries m_tried m_settled m_found m_isCovered m_covered m_toldMany m_there m_now m_kinds m_targets m_predicates m_numbers m_puts m_codes m_weights m_sets m_picks m_classes m_steps m_told) sz) (wX m_a m_there_a m_now_a m_kinds_a m_targets_a m_predicates_a m_numbers_a m_puts_a m_codes_a m_weights_a m_sets_a m_picks_a m_classes_a m_steps_a m_told_a cI cZ cB cC m_rules m_changes m_mostTries m_tried m_settled m_found m_isCovered m_covered m_toldMany m_there m_now m_kinds m_targets m_predicates m_numbers m_puts m_codes m_weights m_sets_r m_picks m_classes m_steps m_told)) 0 0 (va_A (wX m_a m_there_a m_now_a m_kinds_a m_targets_a m_predicates_a m_numbers_a m_puts_a m_codes_a m_weights_a m_sets_a m_picks_a m_classes_a m_steps_a m_told_a cI cZ cB cC m_rules m_changes m_mostTries m_tried m_settled m_found m_isCovered m_covered m_toldMany m_there m_now m_kinds m_targets m_predicates m_numbers m_puts m_codes m_weights m_sets m_picks m_classes m_steps m_told) sz) := by
  refine Met.ofW (cc := cK5_sort) (maxL := 5) (ret := none) (by decide) rfl ?_
  intro p e s m args below meth c s₁ B hml hv
  obtain ⟨rfl, hsz, hP, hK, hD0, hN⟩ := hv
  have hx := B.exec
  have hb := B.bytes
  have hr := B.returns
  have hts := htsA (atoms_spec (ws := wsK5_sort) B.pre)
  have hown : s.vm.findClass RK5 = some m.cls := findClass_of_methodNamed B.named
  have hlocks := B.notSynchronized
  subst hsz
  have hD := hD0.self (sz := s.heap.size)
  generalize hAe : va_A (wX m_a m_there_a m_now_a m_kinds_a m_targets_a m_predicates_a m_numbers_a m_puts_a m_codes_a m_weights_a m_sets_a m_picks_a m_classes_a m_steps_a m_told_a cI cZ cB cC m_rules m_changes m_mostTries m_tried m_settled m_found m_isCovered m_covered m_toldMany m_there m_now m_kinds m_targets m_predicates m_numbers m_puts m_codes m_weights m_sets m_picks m_classes m_steps m_told) s.heap.size = A at hD ⊢
  have hA : ∀ q : Nat, s.heap.size ≤ q → A q := fun q h => by rw [← hAe]; exact Or.inr h
  refine kstart (A := A) hP (fun H hP hS => ?_)
  have hl := lv_entry ([.ref m_a]) (n := 5) (Nat.le_of_ble_eq_true rfl)
  rw [lg_entry_eq]
  generalize (lg_sl ([.ref m_a]) ++ List.replicate (5 - (lg_sl ([.ref m_a])).length) Slot.unset).toArray = ls at hl ⊢
  have hl : lv_has ls 5 [(0, .ref m_a)] := hl
  unfold mK5_sort at hm
  refine lv_iconst (v := 1) hx hb dK5_sort_0 (by decide) ?_
  refine lv_istore_n (lv' := [(1, .int 1), (0, .ref m_a)]) hx hb dK5_sort_1 rfl hl (by decide) rfl (fun ls hl => ?_)
  have lx2 : ∀ (m_setsx2 : Nat → Int32) (H : Heap) (locs : List Loc) (ls : Array Slot), mK5_sort_A2 m_setsx2 = some m_sets_r → va_P D vwCl (wX m_a m_there_a m_now_a m_kinds_a m_targets_a m_predicates_a m_numbers_a m_puts_a m_codes_a m_weights_a m_sets_a m_picks_a m_classes_a m_steps_a m_told_a cI cZ cB cC m_rules m_changes m_mostTries m_tried m_settled m_found m_isCovered m_covered m_toldMany m_there m_now m_kinds m_targets m_predicates m_numbers m_puts m_codes m_weights m_setsx2 m_picks m_classes m_steps m_told) H → va_D A (wX m_a m_there_a m_now_a m_kinds_a m_targets_a m_predicates_a m_numbers_a m_puts_a m_codes_a m_weights_a m_sets_a m_picks_a m_classes_a m_steps_a m_told_a cI cZ cB cC m_rules m_changes m_mostTries m_tried m_settled m_found m_isCovered m_covered m_toldMany m_there m_now m_kinds m_targets m_predicates m_numbers m_puts m_codes m_weights m_setsx2 m_picks m_classes m_steps m_told) → va_S A s.heap H locs → lv_has ls 5 [] → W p l e (headSpec wsK5_sort rmK5_sort).room s m ([.ref m_a] : List Value).toArray below meth c H locs 0 0 (MQ below (QV D A (wX m_a m_there_a m_now_a m_kinds_a m_targets_a m_predicates_a m_numbers_a m_puts_a m_codes_a m_weights_a m_sets_a m_picks_a m_classes_a m_steps_a m_told_a cI cZ cB cC m_rules m_changes m_mostTries m_tried m_settled m_found m_isCovered m_covered m_toldMany m_there m_now m_kinds m_targets m_predicates m_numbers m_puts m_codes m_weights m_sets_r m_picks m_classes m_steps m_told)) ([.ref m_a] : List Value).toArray s 0 0 A) (F0 m 108 ls []) := by
    intro m_setsx2 H locs ls hm hP hD hS hl
    unfold mK5_sort_A2 at hm
    replace hm := Option.some.inj hm
    subst hm
    exact k_retv hx hb hr hlocks hP hD hS dK5_sort_108
  have lp2 : ∀ (n2 : Nat) (i1l2 : Int32) (m_setsl2 : Nat → Int32) (H : Heap) (locs : List Loc) (ls : Array Slot), mK5_sort_L2 m_found m_weights (mK5_sort_A2) n2 i1l2 m_setsl2 = some m_sets_r → va_P D vwCl (wX m_a m_there_a m_now_a m_kinds_a m_targets_a m_predicates_a m_numbers_a m_puts_a m_codes_a m_weights_a m_sets_a m_picks_a m_classes_a m_steps_a m_told_a cI cZ cB cC m_rules m_changes m_mostTries m_tried m_settled m_found m_isCovered m_covered m_toldMany m_there m_now m_kinds m_targets m_predicates m_numbers m_puts m_codes m_weights m_setsl2 m_picks m_classes m_steps m_told) H → va_D A (wX m_a m_there_a m_now_a m_kinds_a m_targets_a m_predicates_a m_numbers_a m_puts_a m_codes_a m_weights_a m_sets_a m_picks_a m_classes_a m_steps_a m_told_a cI cZ cB cC m_rules m_changes m_mostTries m_tried m_settled m_found m_isCovered m_covered m_toldMany m_there m_now m_kinds m_targets m_predicates m_numbers m_puts m_codes m_weights m_setsl2 m_picks m_classes m_steps m_told) → va_S A s.heap H locs → lv_has ls 5 [(1, .int i1l2), (0, .ref m_a)] → W p l e (headSpec wsK5_sort rmK5_sort).room s m ([.ref m_a] : List Value).toArray below meth c H locs 0 0 (MQ below (QV D A (wX m_a m_there_a m_now_a m_kinds_a m_targets_a m_predicates_a m_numbers_a m_puts_a m_codes_a m_weights_a m_sets_a m_picks_a m_classes_a m_steps_a m_told_a cI cZ cB cC m_rules m_changes m_mostTries m_tried m_settled m_found m_isCovered m_covered m_toldMany m_there m_now m_kinds m_targets m_predicates m_numbers m_puts m_codes m_weights m_sets_r m_picks m_classes m_steps m_told)) ([.ref m_a] : List Value).toArray s 0 0 A) (F0 m 2 ls []) := by
    intro n2
    induction n2 with
    | zero => intro i1l2 m_setsl2 H locs ls hm; exact nomatch (show none = _ from hm)
    | succ n2 ih2 =>
      intro i1l2 m_setsl2 H locs ls hm hP hD hS hl
      replace hm : mK5_sort_B2 m_found m_weights (mK5_sort_A2) (mK5_sort_L2 m_found m_weights (mK5_sort_A2) n2) i1l2 m_setsl2 = some m_sets_r := hm
      unfold mK5_sort_B2 at hm
      refine lv_iload_n hx hb dK5_sort_2 rfl (lv_at hl 0 rfl) ?_
      refine lv_aload_n hx hb dK5_sort_3 rfl (lv_at hl 1 rfl) ?_
      refine va_get (D := D) (ci := 5) (v := .int m_found) (C := RK5) (T := TK5) (N := 23) hx hb hts inK5 hown hK hP 0 rfl rfl 14 (by decide) (hts _ wdt3_200) (fun _ h9 => h9) rfl dK5_sort_4 ?_
      refine lv_icmp_ge (tgt := 108) hx hb dK5_sort_7 (by decide) (fun hc => ?_) (fun hc => ?_)
      · replace hm := ift hm hc
        exact lx2 m_setsl2 _ _ _ hm hP hD hS (lv_sub hl [] rfl)
      · replace hm := iff_ hm hc
        refine lv_aload_n hx hb dK5_sort_10 rfl (lv_at hl 1 rfl) ?_
        refine va_get (D := D) (ci := 5) (v := .ref m_sets_a) (C := RK5) (T := TK5) (N := 23) hx hb hts inK5 hown hK hP 0 rfl rfl 15 (by decide) (hts _ wdt3_201) (fun _ h9 => h9) rfl dK5_sort_11 ?_
        refine lv_iload_n hx hb dK5_sort_14 rfl (lv_at hl 0 rfl) ?_
        obtain ⟨x1, ex1, hm⟩ := bd1_s hm
        obtain ⟨hix1, ex1⟩ := rd_s ex1
        refine va_iald hx hb hK hP 10 0 rfl rfl hix1 dK5_sort_15 ?_
        refine topi ex1 ?_
        refine lv_istore_n (lv' := [(2, .int x1), (1, .int i1l2), (0, .ref m_a)]) hx hb dK5_sort_16 rfl hl (by decide) rfl (fun ls hl => ?_)
        refine lv_bipush (v := 100) hx hb dK5_sort_17 (by decide) ?_
        refine lv_aload_n hx hb dK5_sort_19 rfl (lv_at hl 2 rfl) ?_
        refine lv_iload_n hx hb dK5_sort_20 rfl (lv_at hl 0 rfl) ?_
        obtain ⟨x2, ec3, hm⟩ := bd1_s hm
        have hPc := hP.sub (ws' := (wX m_a m_there_a m_now_a m_kinds_a m_targets_a m_predicates_a m_numbers_a m_puts_a m_codes_a m_weights_a m_sets_a m_picks_a m_classes_a m_steps_a m_told_a cI cZ cB cC m_rules m_changes m_mostTries m_tried m_settled m_found m_isCovered m_covered m_toldMany m_there m_now m_kinds m_targets m_predicates m_numbers m_puts m_codes m_weights m_setsl2 m_picks m_classes m_steps m_told)) [0, 1, 2, 3, 4, 5, 6, 7, 8, 9, 10, 11, 12, 13, 14] rfl
        have hDc := hD.sub (ws' := (wX m_a m_there_a m_now_a m_kinds_a m_targets_a m_predicates_a m_numbers_a m_puts_a m_codes_a m_weights_a m_sets_a m_picks_a m_classes_a m_steps_a m_told_a cI cZ cB cC m_rules m_changes m_mostTries m_tried m_settled m_found m_isCovered m_covered m_toldMany m_there m_now m_kinds m_targets m_predicates m_numbers m_puts m_codes m_weights m_setsl2 m_picks m_classes m_steps m_told)) [0, 1, 2, 3, 4, 5, 6, 7, 8, 9, 10, 11, 12, 13, 14] (by decide) rfl
        refine k_calli (wr := []) (w1 := (wX m_a m_there_a m_now_a m_kinds_a m_targets_a m_predicates_a m_numbers_a m_puts_a m_codes_a m_weights_a m_sets_a m_picks_a m_classes_a m_steps_a m_told_a cI cZ cB cC m_rules m_changes m_mostTries m_tried m_settled m_found m_isCovered m_covered m_toldMany m_there m_now m_kinds m_targets m_predicates m_numbers m_puts m_codes m_weights m_setsl2 m_picks m_classes m_steps m_told)) (ws' := (wX m_a m_there_a m_now_a m_kinds_a m_targets_a m_predicates_a m_numbers_a m_puts_a m_codes_a m_weights_a m_sets_a m_picks_a m_classes_a m_steps_a m_told_a cI cZ cB cC m_rules m_changes m_mostTries m_tried m_settled m_found m_isCovered m_covered m_toldMany m_there m_now m_kinds m_targets m_predicates m_numbers m_puts m_codes m_weights m_setsl2 m_picks m_classes m_steps m_told)) (va_runV (As := [.int x1]) (rest := [.int 100]) ⟨hx, hb, hml, hown, hts⟩ (kK5_weightOf l D cI cZ cB cC H.size m_a m_there_a m_now_a m_kinds_a m_targets_a m_predicates_a m_numbers_a m_puts_a m_codes_a m_weights_a m_sets_a m_picks_a m_classes_a m_steps_a m_told_a m_rules m_changes m_mostTries m_tried m_settled m_found m_isCovered m_covered m_toldMany m_there m_now m_kinds m_targets m_predicates m_numbers m_puts m_codes m_weights m_setsl2 m_picks m_classes m_steps m_told x1 x2 ec3) (cwV 1 hts (gdV wdt4_137 wdt4_139 wds2_12 wdt1_10 gkK5_weightOf) rfl rfl rfl (by decide +kernel) ⟨Nat.le_of_ble_eq_true rfl, Nat.le_of_ble_eq_true rfl⟩) ⟨Pr_blind, va_recv hK hPc (ci := 5) (q0 := 0) rfl rfl, fun U hU hW => ⟨rfl, Pr_at hK hN hPc hDc hU hW⟩⟩ rfl rfl hl.1 rfl (lv_room (Nat.le_of_ble_eq_true rfl)) dK5_sort_21 ⟨Nat.le_of_ble_eq_true rfl, Nat.le_of_ble_eq_true rfl⟩) hP hD hS hA [0, 1, 2, 3, 4, 5, 6, 7, 8, 9, 10, 11, 12, 13, 14] [] [0, 1, 2, 3, 4, 5, 6, 7, 8, 9, 10, 11, 12, 13, 14] rfl rfl (by decide) (by decide) (by decide) rfl (fun H locs hP hD hS => ?_)
        refine lv_imul hx hb dK5_sort_24 ?_
        refine lv_iload_n hx hb dK5_sort_25 rfl (lv_at hl 0 rfl) ?_
        obtain ⟨x4, ec5, hm⟩ := bd1_s hm
        have hPc : va_P D vwCl [] H := va_P0
        have hDc : va_D A [] := va_D0
        refine k_calli0 (va_runS (As := [.int x1]) (rest := [.int (100 * x2)]) ⟨hx, hb, hml, hown, hts⟩ (kK5_sizeOf l D cI cZ cB cC H.size x1 x4 ec5) (va_cwS 1 hts (gdS wdt4_141 wdt4_142 wdt1_10 gkK5_sizeOf) rfl rfl rfl (by decide +kernel) ⟨Nat.le_of_ble_eq_true rfl, Nat.le_of_ble_eq_true rfl⟩) ⟨Pr_blind, fun U hU hW => ⟨rfl, Pr_at hK hN hPc hDc hU hW⟩⟩ rfl rfl hl.1 rfl (lv_room (Nat.le_of_ble_eq_true rfl)) dK5_sort_26 ⟨Nat.le_of_ble_eq_true rfl, Nat.le_of_ble_eq_true rfl⟩) hP hD hS hA (fun H locs hP hD hS => ?_)
        refine lv_iadd hx hb dK5_sort_29 ?_
        obtain ⟨x6, ex6, hm⟩ := bd1_s hm
        refine topi (Option.some.inj ex6) ?_
        refine lv_istore_n (lv' := [(3, .int x6), (2, .int x1), (1, .int i1l2), (0, .ref m_a)]) hx hb dK5_sort_30 rfl hl (by decide) rfl (fun ls hl => ?_)
        refine lv_iload_n hx hb dK5_sort_31 rfl (lv_at hl 2 rfl) ?_
        refine lv_istore (lv' := [(4, .int i1l2), (3, .int x6), (2, .int x1), (1, .int i1l2), (0, .ref m_a)]) hx hb dK5_sort_32 hl (by decide) rfl (fun ls hl => ?_)
        have lx34 : ∀ (i4x34 : Int32) (m_setsx34 : Nat → Int32) (H : Heap) (locs : List Loc) (ls : Array Slot), mK5_sort_A34 i1l2 (mK5_sort_L2 m_found m_weights (mK5_sort_A2) n2) x1 i4x34 m_setsx34 = some m_sets_r → va_P D vwCl (wX m_a m_there_a m_now_a m_kinds_a m_targets_a m_predicates_a m_numbers_a m_puts_a m_codes_a m_weights_a m_sets_a m_picks_a m_classes_a m_steps_a m_told_a cI cZ cB cC m_rules m_changes m_mostTries m_tried m_settled m_found m_isCovered m_covered m_toldMany m_there m_now m_kinds m_targets m_predicates m_numbers m_puts m_codes m_weights m_setsx34 m_picks m_classes m_steps m_told) H → va_D A (wX m_a m_there_a m_now_a m_kinds_a m_targets_a m_predicates_a m_numbers_a m_puts_a m_codes_a m_weights_a m_sets_a m_picks_a m_classes_a m_steps_a m_told_a cI cZ cB cC m_rules m_changes m_mostTries m_tried m_settled m_found m_isCovered m_covered m_toldMany m_there m_now m_kinds m_targets m_predicates m_numbers m_puts m_codes m_weights m_setsx34 m_picks m_classes m_steps m_told) → va_S A s.heap H locs → lv_has ls 5 [(0, .ref m_a), (1, .int i1l2), (2, .int x1), (4, .int i4x34)] → W p l e (headSpec wsK5_sort rmK5_sort).room s m ([.ref m_a] : List Value).toArray below meth c H locs 0 0 (MQ below (QV D A (wX m_a m_there_a m_now_a m_kinds_a m_targets_a m_predicates_a m_numbers_a m_puts_a m_codes_a m_weights_a m_sets_a m_picks_a m_classes_a m_steps_a m_told_a cI cZ cB cC m_rules m_changes m_mostTries m_tried m_settled m_found m_isCovered m_covered m_toldMany m_there m_now m_kinds m_targets m_predicates m_numbers m_puts m_codes m_weights m_sets_r m_picks m_classes m_steps m_told)) ([.ref m_a] : List Value).toArray s 0 0 A) (F0 m 94 ls []) := by
          intro i4x34 m_setsx34 H locs ls hm hP hD hS hl
          unfold mK5_sort_A34 at hm
          refine lv_aload_n hx hb dK5_sort_94 rfl (lv_at hl 0 rfl) ?_
          refine va_get (D := D) (ci := 5) (v := .ref m_sets_a) (C := RK5) (T := TK5) (N := 23) hx hb hts inK5 hown hK hP 0 rfl rfl 15 (by decide) (hts _ wdt3_201) (fun _ h9 => h9) rfl dK5_sort_95 ?_
          refine lv_iload hx hb dK5_sort_98 (lv_at hl 3 rfl) ?_
          refine lv_iload_n hx hb dK5_sort_100 rfl (lv_at hl 2 rfl) ?_
          obtain ⟨x7, ex7, hm⟩ := bd1_s hm
          obtain ⟨hix7, ex7⟩ := wrt_s ex7
          refine va_iast hx hb hK hP hD hS 10 0 rfl rfl hix7 dK5_sort_101 (fun H locs hP hD hS => ?_)
          rw [ex7] at hP hD
          have hP : va_P D vwCl (wX m_a m_there_a m_now_a m_kinds_a m_targets_a m_predicates_a m_numbers_a m_puts_a m_codes_a m_weights_a m_sets_a m_picks_a m_classes_a m_steps_a m_told_a cI cZ cB cC m_rules m_changes m_mostTries m_tried m_settled m_found m_isCovered m_covered m_toldMany m_there m_now m_kinds m_targets m_predicates m_numbers m_puts m_codes m_weights x7 m_picks m_classes m_steps m_told) H := hP
          have hD : va_D A (wX m_a m_there_a m_now_a m_kinds_a m_targets_a m_predicates_a m_numbers_a m_puts_a m_codes_a m_weights_a m_sets_a m_picks_a m_classes_a m_steps_a m_told_a cI cZ cB cC m_rules m_changes m_mostTries m_tried m_settled m_found m_isCovered m_covered m_toldMany m_there m_now m_kinds m_targets m_predicates m_numbers m_puts m_codes m_weights x7 m_picks m_classes m_steps m_told) := hD
          obtain ⟨x8, ex8, hm⟩ := bd1_s hm
          refine lv_iinc (v := x8) (lv' := [(1, .int x8), (0, .ref m_a), (2, .int x1), (4, .int i4x34)]) hx hb dK5_sort_102 hl (k := 1) rfl (by rw [← Option.some.inj ex8]; rfl) (by decide) rfl (fun ls hl => ?_)
          refine lv_goto (tgt := 2) hx hb dK5_sort_105 (by decide) ?_
          exact ih2 x8 x7 _ _ _ hm hP hD hS (lv_sub hl [0, 1] rfl)
        have lp34 : ∀ (n34 : Nat) (i4l34 : Int32) (m_setsl34 : Nat → Int32) (H : Heap) (locs : List Loc) (ls : Array Slot), mK5_sort_L34 m_weights x6 (mK5_sort_A34 i1l2 (mK5_sort_L2 m_found m_weights (mK5_sort_A2) n2) x1) n34 i4l34 m_setsl34 = some m_sets_r → va_P D vwCl (wX m_a m_there_a m_now_a m_kinds_a m_targets_a m_predicates_a m_numbers_a m_puts_a m_codes_a m_weights_a m_sets_a m_picks_a m_classes_a m_steps_a m_told_a cI cZ cB cC m_rules m_changes m_mostTries m_tried m_settled m_found m_isCovered m_covered m_toldMany m_there m_now m_kinds m_targets m_predicates m_numbers m_puts m_codes m_weights m_setsl34 m_picks m_classes m_steps m_told) H → va_D A (wX m_a m_there_a m_now_a m_kinds_a m_targets_a m_predicates_a m_numbers_a m_puts_a m_codes_a m_weights_a m_sets_a m_picks_a m_classes_a m_steps_a m_told_a cI cZ cB cC m_rules m_changes m_mostTries m_tried m_settled m_found m_isCovered m_covered m_toldMany m_there m_now m_kinds m_targets m_predicates m_numbers m_puts m_codes m_weights m_setsl34 m_picks m_classes m_steps m_told) → va_S A s.heap H locs → lv_has ls 5 [(4, .int i4l34), (3, .int x6), (2, .int x1), (1, .int i1l2), (0, .ref m_a)] → W p l e (headSpec wsK5_sort rmK5_sort).room s m ([.ref m_a] : List Value).toArray below meth c H locs 0 0 (MQ below (QV D A (wX m_a m_there_a m_now_a m_kinds_a m_targets_a m_predicates_a m_numbers_a m_puts_a m_codes_a m_weights_a m_sets_a m_picks_a m_classes_a m_steps_a m_told_a cI cZ cB cC m_rules m_changes m_mostTries m_tried m_settled m_found m_isCovered m_covered m_toldMany m_there m_now m_kinds m_targets m_predicates m_numbers m_puts m_codes m_weights m_sets_r m_picks m_classes m_steps m_told)) ([.ref m_a] : List Value).toArray s 0 0 A) (F0 m 34 ls []) := by
          intro n34
          induction n34 with
          | zero => intro i4l34 m_setsl34 H locs ls hm; exact nomatch (show none = _ from hm)
          | succ n34 ih34 =>
            intro i4l34 m_setsl34 H locs ls hm hP hD hS hl
            replace hm : mK5_sort_B34 m_weights x6 (mK5_sort_A34 i1l2 (mK5_sort_L2 m_found m_weights (mK5_sort_A2) n2) x1) (mK5_sort_L34 m_weights x6 (mK5_sort_A34 i1l2 (mK5_sort_L2 m_found m_weights (mK5_sort_A2) n2) x1) n34) i4l34 m_setsl34 = some m_sets_r := hm
            unfold mK5_sort_B34 at hm
            refine lv_iload hx hb dK5_sort_34 (lv_at hl 0 rfl) ?_
            refine lv_if_le (tgt := 94) hx hb dK5_sort_36 (by decide) (fun hc => ?_) (fun hc => ?_)
            · replace hm := ift hm hc
              exact lx34 i4l34 m_setsl34 _ _ _ hm hP hD hS (lv_sub hl [4, 3, 2, 0] rfl)
            · replace hm := iff_ hm hc
              refine lv_bipush (v := 100) hx hb dK5_sort_39 (by decide) ?_
              refine lv_aload_n hx hb dK5_sort_41 rfl (lv_at hl 4 rfl) ?_
              refine lv_aload_n hx hb dK5_sort_42 rfl (lv_at hl 4 rfl) ?_
              refine va_get (D := D) (ci := 5) (v := .ref m_sets_a) (C := RK5) (T := TK5) (N := 23) hx hb hts inK5 hown hK hP 0 rfl rfl 15 (by decide) (hts _ wdt3_201) (fun _ h9 => h9) rfl dK5_sort_43 ?_
              refine lv_iload hx hb dK5_sort_46 (lv_at hl 0 rfl) ?_
              refine lv_iconst (v := 1) hx hb dK5_sort_48 (by decide) ?_
              refine lv_isub hx hb dK5_sort_49 ?_
              obtain ⟨x9, ex9, hm⟩ := bd1_s hm
              obtain ⟨hix9, ex9⟩ := rd_s ex9
              refine va_iald hx hb hK hP 10 0 rfl rfl hix9 dK5_sort_50 ?_
              refine topi ex9 ?_
              obtain ⟨x10, ec11, hm⟩ := bd1_s hm
              have hPc := hP.sub (ws' := (wX m_a m_there_a m_now_a m_kinds_a m_targets_a m_predicates_a m_numbers_a m_puts_a m_codes_a m_weights_a m_sets_a m_picks_a m_classes_a m_steps_a m_told_a cI cZ cB cC m_rules m_changes m_mostTries m_tried m_settled m_found m_isCovered m_covered m_toldMany m_there m_now m_kinds m_targets m_predicates m_numbers m_puts m_codes m_weights m_setsl34 m_picks m_classes m_steps m_told)) [0, 1, 2, 3, 4, 5, 6, 7, 8, 9, 10, 11, 12, 13, 14] rfl
              have hDc := hD.sub (ws' := (wX m_a m_there_a m_now_a m_kinds_a m_targets_a m_predicates_a m_numbers_a m_puts_a m_codes_a m_weights_a m_sets_a m_picks_a m_classes_a m_steps_a m_told_a cI cZ cB cC m_rules m_changes m_mostTries m_tried m_settled m_found m_isCovered m_covered m_toldMany m_there m_now m_kinds m_targets m_predicates m_numbers m_puts m_codes m_weights m_setsl34 m_picks m_classes m_steps m_told)) [0, 1, 2, 3, 4, 5, 6, 7, 8, 9, 10, 11, 12, 13, 14] (by decide) rfl
              refine k_calli (wr := []) (w1 := (wX m_a m_there_a m_now_a m_kinds_a m_targets_a m_predicates_a m_numbers_a m_puts_a m_codes_a m_weights_a m_sets_a m_picks_a m_classes_a m_steps_a m_told_a cI cZ cB cC m_rules m_changes m_mostTries m_tried m_settled m_found m_isCovered m_covered m_toldMany m_there m_now m_kinds m_targets m_predicates m_numbers m_puts m_codes m_weights m_setsl34 m_picks m_classes m_steps m_told)) (ws' := (wX m_a m_there_a m_now_a m_kinds_a m_targets_a m_predicates_a m_numbers_a m_puts_a m_codes_a m_weights_a m_sets_a m_picks_a m_classes_a m_steps_a m_told_a cI cZ cB cC m_rules m_changes m_mostTries m_tried m_settled m_found m_isCovered m_covered m_toldMany m_there m_now m_kinds m_targets m_predicates m_numbers m_puts m_codes m_weights m_setsl34 m_picks m_classes m_steps m_told)) (va_runV (As := [.int x9]) (rest := [.int 100]) ⟨hx, hb, hml, hown, hts⟩ (kK5_weightOf l D cI cZ cB cC H.size m_a m_there_a m_now_a m_kinds_a m_targets_a m_predicates_a m_numbers_a m_puts_a m_codes_a m_weights_a m_sets_a m_picks_a m_classes_a m_steps_a m_told_a m_rules m_changes m_mostTries m_tried m_settled m_found m_isCovered m_covered m_toldMany m_there m_now m_kinds m_targets m_predicates m_numbers m_puts m_codes m_weights m_setsl34 m_picks m_classes m_steps m_told x9 x10 ec11) (cwV 1 hts (gdV wdt4_137 wdt4_139 wds2_12 wdt1_10 gkK5_weightOf) rfl rfl rfl (by decide +kernel) ⟨Nat.le_of_ble_eq_true rfl, Nat.le_of_ble_eq_true rfl⟩) ⟨Pr_blind, va_recv hK hPc (ci := 5) (q0 := 0) rfl rfl, fun U hU hW => ⟨rfl, Pr_at hK hN hPc hDc hU hW⟩⟩ rfl rfl hl.1 rfl (lv_room (Nat.le_of_ble_eq_true rfl)) dK5_sort_51 ⟨Nat.le_of_ble_eq_true rfl, Nat.le_of_ble_eq_true rfl⟩) hP hD hS hA [0, 1, 2, 3, 4, 5, 6, 7, 8, 9, 10, 11, 12, 13, 14] [] [0, 1, 2, 3, 4, 5, 6, 7, 8, 9, 10, 11, 12, 13, 14] rfl rfl (by decide) (by decide) (by decide) rfl (fun H locs hP hD hS => ?_)
              refine lv_imul hx hb dK5_sort_54 ?_
              refine lv_aload_n hx hb dK5_sort_55 rfl (lv_at hl 4 rfl) ?_
              refine va_get (D := D) (ci := 5) (v := .ref m_sets_a) (C := RK5) (T := TK5) (N := 23) hx hb hts inK5 hown hK hP 0 rfl rfl 15 (by decide) (hts _ wdt3_201) (fun _ h9 => h9) rfl dK5_sort_56 ?_
              refine lv_iload hx hb dK5_sort_59 (lv_at hl 0 rfl) ?_
              refine lv_iconst (v := 1) hx hb dK5_sort_61 (by decide) ?_
              refine lv_isub hx hb dK5_sort_62 ?_
              obtain ⟨x12, ex12, hm⟩ := bd1_s hm
              obtain ⟨hix12, ex12⟩ := rd_s ex12
              refine va_iald hx hb hK hP 10 0 rfl rfl hix12 dK5_sort_63 ?_
              refine topi ex12 ?_
              obtain ⟨x13, ec14, hm⟩ := bd1_s hm
              have hPc : va_P D vwCl [] H := va_P0
              have hDc : va_D A [] := va_D0
              refine k_calli0 (va_runS (As := [.int x12]) (rest := [.int (100 * x10)]) ⟨hx, hb, hml, hown, hts⟩ (kK5_sizeOf l D cI cZ cB cC H.size x12 x13 ec14) (va_cwS 1 hts (gdS wdt4_141 wdt4_142 wdt1_10 gkK5_sizeOf) rfl rfl rfl (by decide +kernel) ⟨Nat.le_of_ble_eq_true rfl, Nat.le_of_ble_eq_true rfl⟩) ⟨Pr_blind, fun U hU hW => ⟨rfl, Pr_at hK hN hPc hDc hU hW⟩⟩ rfl rfl hl.1 rfl (lv_room (Nat.le_of_ble_eq_true rfl)) dK5_sort_64 ⟨Nat.le_of_ble_eq_true rfl, Nat.le_of_ble_eq_true rfl⟩) hP hD hS hA (fun H locs hP hD hS => ?_)
              refine lv_iadd hx hb dK5_sort_67 ?_
              refine lv_iload_n hx hb dK5_sort_68 rfl (lv_at hl 1 rfl) ?_
              refine lv_icmp_le (tgt := 94) hx hb dK5_sort_69 (by decide) (fun hc => ?_) (fun hc => ?_)
              · replace hm := ift hm hc
                exact lx34 i4l34 m_setsl34 _ _ _ hm hP hD hS (lv_sub hl [4, 3, 2, 0] rfl)
              · replace hm := iff_ hm hc
                refine lv_aload_n hx hb dK5_sort_72 rfl (lv_at hl 4 rfl) ?_
                refine va_get (D := D) (ci := 5) (v := .ref m_sets_a) (C := RK5) (T := TK5) (N := 23) hx hb hts inK5 hown hK hP 0 rfl rfl 15 (by decide) (hts _ wdt3_201) (fun _ h9 => h9) rfl dK5_sort_73 ?_
                refine lv_iload hx hb dK5_sort_76 (lv_at hl 0 rfl) ?_
                refine lv_aload_n hx hb dK5_sort_78 rfl (lv_at hl 4 rfl) ?_
                refine va_get (D := D) (ci := 5) (v := .ref m_sets_a) (C := RK5) (T := TK5) (N := 23) hx hb hts inK5 hown hK hP 0 rfl rfl 15 (by decide) (hts _ wdt3_201) (fun _ h9 => h9) rfl dK5_sort_79 ?_
                refine lv_iload hx hb dK5_sort_82 (lv_at hl 0 rfl) ?_
                refine lv_iconst (v := 1) hx hb dK5_sort_84 (by decide) ?_
                refine lv_isub hx hb dK5_sort_85 ?_
                obtain ⟨x15, ex15, hm⟩ := bd1_s hm
                obtain ⟨hix15, ex15⟩ := rd_s ex15
                refine va_iald hx hb hK hP 10 0 rfl rfl hix15 dK5_sort_86 ?_
                refine topi ex15 ?_
                obtain ⟨x16, ex16, hm⟩ := bd1_s hm
                obtain ⟨hix16, ex16⟩ := wrt_s ex16
                refine va_iast hx hb hK hP hD hS 10 0 rfl rfl hix16 dK5_sort_87 (fun H locs hP hD hS => ?_)
                rw [ex16] at hP hD
                have hP : va_P D vwCl (wX m_a m_there_a m_now_a m_kinds_a m_targets_a m_predicates_a m_numbers_a m_puts_a m_codes_a m_weights_a m_sets_a m_picks_a m_classes_a m_steps_a m_told_a cI cZ cB cC m_rules m_changes m_mostTries m_tried m_settled m_found m_isCovered m_covered m_toldMany m_there m_now m_kinds m_targets m_predicates m_numbers m_puts m_codes m_weights x16 m_picks m_classes m_steps m_told) H := hP
                have hD : va_D A (wX m_a m_there_a m_now_a m_kinds_a m_targets_a m_predicates_a m_numbers_a m_puts_a m_codes_a m_weights_a m_sets_a m_picks_a m_classes_a m_steps_a m_told_a cI cZ cB cC m_rules m_changes m_mostTries m_tried m_settled m_found m_isCovered m_covered m_toldMany m_there m_now m_kinds m_targets m_predicates m_numbers m_puts m_codes m_weights x16 m_picks m_classes m_steps m_told) := hD
                obtain ⟨x17, ex17, hm⟩ := bd1_s hm
                refine lv_iinc (v := x17) (lv' := [(4, .int x17), (3, .int x6), (2, .int x1), (1, .int i1l2), (0, .ref m_a)]) hx hb dK5_sort_88 hl (k := 0) rfl (by rw [← Option.some.inj ex17]; rfl) (by decide) rfl (fun ls hl => ?_)
                refine lv_goto (tgt := 34) hx hb dK5_sort_91 (by decide) ?_
                exact ih34 x17 x16 _ _ _ hm hP hD hS (lv_sub hl [0, 1, 2, 3, 4] rfl)
        exact lp34 5000 i1l2 m_setsl2 _ _ _ hm hP hD hS (lv_sub hl [0, 1, 2, 3, 4] rfl)
  exact lp2 5000 1 m_sets _ _ _ hm hP hD hS (lv_sub hl [0, 1] rfl)
