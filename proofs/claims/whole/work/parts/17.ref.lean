def mK5_holds_A24 (m_kinds : Nat → Int32) (v1 : Int32) (x2 : Int32) (i5x24 : Int32) (i6x24 : Int32) (m_classesx24 : Nat → Int32) : Option (Int32 × (Nat → Int32)) :=
  bd1 (rd m_kinds 10 v1) fun x3 => if x3 = 0 then
  (if i5x24 < x2 then
    (some (0, m_classesx24))
    else
    (some (1, m_classesx24)))
  else
  (bd1 (rd m_kinds 10 v1) fun x4 => if x4 = 1 then
    (if x2 < i5x24 then
      (some (0, m_classesx24))
      else
      (some (1, m_classesx24)))
    else
    (bd1 (bz i6x24) fun x5 => some (x5, m_classesx24)))
def mK5_holds_J57 (m_now : Nat → Int32) (m_kinds : Nat → Int32) (v1 : Int32) (v2 : Int32) (x2 : Int32) (i5l24 : Int32) (i6l24 : Int32) (i7l24 : Int32) (m_classesl24 : Nat → Int32) (rc24 : Int32 → Int32 → Int32 → (Nat → Int32) → (Option (Int32 × (Nat → Int32)))) (x8 : Int32) (s1j57 : Int32) : Option (Int32 × (Nat → Int32)) :=
  bd1 (some (i5l24 + s1j57)) fun x9 => bd1 (rd m_kinds 10 v1) fun x10 => if x10 = 2 then
  (if i6l24 = 0 then
    (bd1 (some (i7l24 + 1)) fun x32 => rc24 x9 0 x32 m_classesl24)
    else
    (if x8 = 0 then
      (bd1 (some (i7l24 + 1)) fun x33 => rc24 x9 1 x33 m_classesl24)
      else
      (bd2 (mK5_isOfNow m_now m_classesl24 i7l24 x2) fun x34 x35 => if x34 = 0 then
        (bd1 (some (i7l24 + 1)) fun x37 => rc24 x9 0 x37 x35)
        else
        (bd1 (some (i7l24 + 1)) fun x38 => rc24 x9 1 x38 x35))))
  else
  (bd1 (rd m_kinds 10 v1) fun x11 => if x11 = 3 then
    (if i6l24 = 0 then
      (bd1 (some (i7l24 + 1)) fun x28 => rc24 x9 0 x28 m_classesl24)
      else
      (if x8 = 0 then
        (bd1 (some (i7l24 + 1)) fun x29 => rc24 x9 1 x29 m_classesl24)
        else
        (if i7l24 = x2 then
          (bd1 (some (i7l24 + 1)) fun x30 => rc24 x9 0 x30 m_classesl24)
          else
          (bd1 (some (i7l24 + 1)) fun x31 => rc24 x9 1 x31 m_classesl24))))
    else
    (bd1 (rd m_kinds 10 v1) fun x12 => if x12 = 4 then
      (if i6l24 = 0 then
        (bd1 (some (i7l24 + 1)) fun x22 => rc24 x9 0 x22 m_classesl24)
        else
        (bd1 (mK5_codeOf v2 x2 i7l24) fun x23 => bd1 (rd m_now 864 x23) fun x25 => if x8 = x25 then
          (bd1 (some (i7l24 + 1)) fun x27 => rc24 x9 1 x27 m_classesl24)
          else
          (bd1 (some (i7l24 + 1)) fun x26 => rc24 x9 0 x26 m_classesl24)))
      else
      (bd1 (rd m_kinds 10 v1) fun x13 => if x13 = 5 then
        (if i6l24 = 0 then
          (bd1 (some (i7l24 + 1)) fun x15 => rc24 x9 0 x15 m_classesl24)
          else
          (if x8 = 0 then
            (bd1 (some (i7l24 + 1)) fun x16 => rc24 x9 1 x16 m_classesl24)
            else
            (bd1 (mK5_codeOf v2 x2 i7l24) fun x17 => bd1 (rd m_now 864 x17) fun x19 => if x19 = 0 then
              (bd1 (some (i7l24 + 1)) fun x21 => rc24 x9 1 x21 m_classesl24)
              else
              (bd1 (some (i7l24 + 1)) fun x20 => rc24 x9 0 x20 m_classesl24))))
        else
        (bd1 (some (i7l24 + 1)) fun x14 => rc24 x9 i6l24 x14 m_classesl24))))
def mK5_holds_B24 (m_now : Nat → Int32) (m_kinds : Nat → Int32) (v1 : Int32) (v2 : Int32) (x1 : Int32) (x2 : Int32) (kx24 : Int32 → Int32 → (Nat → Int32) → (Option (Int32 × (Nat → Int32)))) (rc24 : Int32 → Int32 → Int32 → (Nat → Int32) → (Option (Int32 × (Nat → Int32)))) (i5l24 : Int32) (i6l24 : Int32) (i7l24 : Int32) (m_classesl24 : Nat → Int32) : Option (Int32 × (Nat → Int32)) :=
  if 12 ≤ i7l24 then
  (kx24 i5l24 i6l24 m_classesl24)
  else
  (bd1 (mK5_codeOf v2 x1 i7l24) fun x6 => bd1 (rd m_now 864 x6) fun x8 => if x8 = 0 then
    (mK5_holds_J57 m_now m_kinds v1 v2 x2 i5l24 i6l24 i7l24 m_classesl24 rc24 x8 0)
    else
    (mK5_holds_J57 m_now m_kinds v1 v2 x2 i5l24 i6l24 i7l24 m_classesl24 rc24 x8 1))
def mK5_holds_L24 (m_now : Nat → Int32) (m_kinds : Nat → Int32) (v1 : Int32) (v2 : Int32) (x1 : Int32) (x2 : Int32) (kx24 : Int32 → Int32 → (Nat → Int32) → (Option (Int32 × (Nat → Int32)))) : Nat → Int32 → Int32 → Int32 → (Nat → Int32) → (Option (Int32 × (Nat → Int32)))
  | 0, _, _, _, _ => none
  | n + 1, i5l24, i6l24, i7l24, m_classesl24 => mK5_holds_B24 m_now m_kinds v1 v2 x1 x2 kx24 (mK5_holds_L24 m_now m_kinds v1 v2 x1 x2 kx24 n) i5l24 i6l24 i7l24 m_classesl24
def mK5_holds (m_now : Nat → Int32) (m_kinds : Nat → Int32) (m_predicates : Nat → Int32) (m_numbers : Nat → Int32) (m_classes : Nat → Int32) (v1 : Int32) (v2 : Int32) : Option (Int32 × (Nat → Int32)) :=
  bd1 (rd m_predicates 10 v1) fun x1 => bd1 (rd m_numbers 10 v1) fun x2 => mK5_holds_L24 m_now m_kinds v1 v2 x1 x2 (mK5_holds_A24 m_kinds v1 x2) 5000 0 1 0 m_classes
abbrev rmK5_holds : Room := { frames := 2, cells := 0, slots := 0, locals := 47 }
set_option maxHeartbeats 4000000 in
set_option maxRecDepth 100000 in
theorem kK5_holds (l : Launch) (D : va_G) (cI cZ cB cC : ClassId) (sz : Nat) (m_a : Nat) (m_there_a : Nat) (m_now_a : Nat) (m_kinds_a : Nat) (m_targets_a : Nat) (m_predicates_a : Nat) (m_numbers_a : Nat) (m_puts_a : Nat) (m_codes_a : Nat) (m_weights_a : Nat) (m_sets_a : Nat) (m_picks_a : Nat) (m_classes_a : Nat) (m_steps_a : Nat) (m_told_a : Nat) (m_rules : Int32) (m_changes : Int32) (m_mostTries : Int32) (m_tried : Int32) (m_settled : Int32) (m_found : Int32) (m_isCovered : Int32) (m_covered : Int32) (m_toldMany : Int32) (m_there : Nat → Int32) (m_now : Nat → Int32) (m_kinds : Nat → Int32) (m_targets : Nat → Int32) (m_predicates : Nat → Int32) (m_numbers : Nat → Int32) (m_puts : Nat → Int32) (m_codes : Nat → Int32) (m_weights : Nat → Int32) (m_sets : Nat → Int32) (m_picks : Nat → Int32) (m_classes : Nat → Int32) (m_steps : Nat → Int32) (m_told : Nat → Int32) (v1 : Int32) (v2 : Int32) (r0 : Int32) (m_classes_r : Nat → Int32) (hm : mK5_holds m_now m_kinds m_predicates m_numbers m_classes v1 v2 = some (r0, m_classes_r)) : Met l yK5_holds wsK5_holds rmK5_holds (va_Pc [.ref m_a, .int v1, .int v2] (Pr D (tyL cI cZ cB cC) sz (wX m_a m_there_a m_now_a m_kinds_a m_targets_a m_predicates_a m_numbers_a m_puts_a m_codes_a m_weights_a m_sets_a m_picks_a m_classes_a m_steps_a m_told_a cI cZ cB cC m_rules m_changes m_mostTries m_tried m_settled m_found m_isCovered m_covered m_toldMany m_there m_now m_kinds m_targets m_predicates m_numbers m_puts m_codes m_weights m_sets m_picks m_classes m_steps m_told))) (QI D (va_A (wX m_a m_there_a m_now_a m_kinds_a m_targets_a m_predicates_a m_numbers_a m_puts_a m_codes_a m_weights_a m_sets_a m_picks_a m_classes_a m_steps_a m_told_a cI cZ cB cC m_rules m_changes m_mostTries m_tried m_settled m_found m_isCovered m_covered m_toldMany m_there m_now m_kinds m_targets m_predicates m_numbers m_puts m_codes m_weights m_sets m_picks m_classes m_steps m_told) sz) r0 (wX m_a m_there_a m_now_a m_kinds_a m_targets_a m_predicates_a m_numbers_a m_puts_a m_codes_a m_weights_a m_sets_a m_picks_a m_classes_a m_steps_a m_told_a cI cZ cB cC m_rules m_changes m_mostTries m_tried m_settled m_found m_isCovered m_covered m_toldMany m_there m_now m_kinds m_targets m_predicates m_numbers m_puts m_codes m_weights m_sets m_picks m_classes_r m_steps m_told)) 0 0 (va_A (wX m_a m_there_a m_now_a m_kinds_a m_targets_a m_predicates_a m_numbers_a m_puts_a m_codes_a m_weights_a m_sets_a m_picks_a m_classes_a m_steps_a m_told_a cI cZ cB cC m_rules m_changes m_mostTries m_tried m_settled m_found m_isCovered m_covered m_toldMany m_there m_now m_kinds m_targets m_predicates m_numbers m_puts m_codes m_weights m_sets m_picks m_classes m_steps m_told) sz) := by
  refine Met.ofW (cc := cK5_holds) (maxL := 9) (ret := (some .boolean)) (by decide) rfl ?_
  intro p e s m args below meth c s₁ B hml hv
  obtain ⟨rfl, hsz, hP, hK, hD0, hN⟩ := hv
  have hx := B.exec
  have hb := B.bytes
  have hr := B.returns
  have hts := htsA (atoms_spec (ws := wsK5_holds) B.pre)
  have hown : s.vm.findClass RK5 = some m.cls := findClass_of_methodNamed B.named
  have hlocks := B.notSynchronized
  subst hsz
  have hD := hD0.self (sz := s.heap.size)
  generalize hAe : va_A (wX m_a m_there_a m_now_a m_kinds_a m_targets_a m_predicates_a m_numbers_a m_puts_a m_codes_a m_weights_a m_sets_a m_picks_a m_classes_a m_steps_a m_told_a cI cZ cB cC m_rules m_changes m_mostTries m_tried m_settled m_found m_isCovered m_covered m_toldMany m_there m_now m_kinds m_targets m_predicates m_numbers m_puts m_codes m_weights m_sets m_picks m_classes m_steps m_told) s.heap.size = A at hD ⊢
  have hA : ∀ q : Nat, s.heap.size ≤ q → A q := fun q h => by rw [← hAe]; exact Or.inr h
  refine kstart (A := A) hP (fun H hP hS => ?_)
  have hl := lv_entry ([.ref m_a, .int v1, .int v2]) (n := 9) (Nat.le_of_ble_eq_true rfl)
  rw [lg_entry_eq]
  generalize (lg_sl ([.ref m_a, .int v1, .int v2]) ++ List.replicate (9 - (lg_sl ([.ref m_a, .int v1, .int v2])).length) Slot.unset).toArray = ls at hl ⊢
  have hl : lv_has ls 9 [(0, .ref m_a), (1, .int v1), (2, .int v2)] := hl
  unfold mK5_holds at hm
  refine lv_aload_n hx hb dK5_holds_0 rfl (lv_at hl 0 rfl) ?_
  refine va_get (D := D) (ci := 5) (v := .ref m_predicates_a) (C := RK5) (T := TK5) (N := 23) hx hb hts inK5 hown hK hP 0 rfl rfl 5 (by decide) (hts _ wdt3_191) (fun _ h9 => h9) rfl dK5_holds_1 ?_
  refine lv_iload_n hx hb dK5_holds_4 rfl (lv_at hl 1 rfl) ?_
  obtain ⟨x1, ex1, hm⟩ := bd1_s hm
  obtain ⟨hix1, ex1⟩ := rd_s ex1
  refine va_iald hx hb hK hP 5 0 rfl rfl hix1 dK5_holds_5 ?_
  refine topi ex1 ?_
  refine lv_istore_n (lv' := [(3, .int x1), (0, .ref m_a), (1, .int v1), (2, .int v2)]) hx hb dK5_holds_6 rfl hl (by decide) rfl (fun ls hl => ?_)
  refine lv_aload_n hx hb dK5_holds_7 rfl (lv_at hl 1 rfl) ?_
  refine va_get (D := D) (ci := 5) (v := .ref m_numbers_a) (C := RK5) (T := TK5) (N := 23) hx hb hts inK5 hown hK hP 0 rfl rfl 6 (by decide) (hts _ wdt3_192) (fun _ h9 => h9) rfl dK5_holds_8 ?_
  refine lv_iload_n hx hb dK5_holds_11 rfl (lv_at hl 2 rfl) ?_
  obtain ⟨x2, ex2, hm⟩ := bd1_s hm
  obtain ⟨hix2, ex2⟩ := rd_s ex2
  refine va_iald hx hb hK hP 6 0 rfl rfl hix2 dK5_holds_12 ?_
  refine topi ex2 ?_
  refine lv_istore (lv' := [(4, .int x2), (3, .int x1), (0, .ref m_a), (1, .int v1), (2, .int v2)]) hx hb dK5_holds_13 hl (by decide) rfl (fun ls hl => ?_)
  refine lv_iconst (v := 0) hx hb dK5_holds_15 (by decide) ?_
  refine lv_istore (lv' := [(5, .int 0), (4, .int x2), (3, .int x1), (0, .ref m_a), (1, .int v1), (2, .int v2)]) hx hb dK5_holds_16 hl (by decide) rfl (fun ls hl => ?_)
  refine lv_iconst (v := 1) hx hb dK5_holds_18 (by decide) ?_
  refine lv_istore (lv' := [(6, .int 1), (5, .int 0), (4, .int x2), (3, .int x1), (0, .ref m_a), (1, .int v1), (2, .int v2)]) hx hb dK5_holds_19 hl (by decide) rfl (fun ls hl => ?_)
  refine lv_iconst (v := 0) hx hb dK5_holds_21 (by decide) ?_
  refine lv_istore (lv' := [(7, .int 0), (6, .int 1), (5, .int 0), (4, .int x2), (3, .int x1), (0, .ref m_a), (1, .int v1), (2, .int v2)]) hx hb dK5_holds_22 hl (by decide) rfl (fun ls hl => ?_)
  have lx24 : ∀ (i5x24 : Int32) (i6x24 : Int32) (m_classesx24 : Nat → Int32) (H : Heap) (locs : List Loc) (ls : Array Slot), mK5_holds_A24 m_kinds v1 x2 i5x24 i6x24 m_classesx24 = some (r0, m_classes_r) → va_P D vwCl (wX m_a m_there_a m_now_a m_kinds_a m_targets_a m_predicates_a m_numbers_a m_puts_a m_codes_a m_weights_a m_sets_a m_picks_a m_classes_a m_steps_a m_told_a cI cZ cB cC m_rules m_changes m_mostTries m_tried m_settled m_found m_isCovered m_covered m_toldMany m_there m_now m_kinds m_targets m_predicates m_numbers m_puts m_codes m_weights m_sets m_picks m_classesx24 m_steps m_told) H → va_D A (wX m_a m_there_a m_now_a m_kinds_a m_targets_a m_predicates_a m_numbers_a m_puts_a m_codes_a m_weights_a m_sets_a m_picks_a m_classes_a m_steps_a m_told_a cI cZ cB cC m_rules m_changes m_mostTries m_tried m_settled m_found m_isCovered m_covered m_toldMany m_there m_now m_kinds m_targets m_predicates m_numbers m_puts m_codes m_weights m_sets m_picks m_classesx24 m_steps m_told) → va_S A s.heap H locs → lv_has ls 9 [(0, .ref m_a), (1, .int v1), (4, .int x2), (5, .int i5x24), (6, .int i6x24)] → W p l e (headSpec wsK5_holds rmK5_holds).room s m ([.ref m_a, .int v1, .int v2] : List Value).toArray below meth c H locs 0 0 (MQ below (QI D A r0 (wX m_a m_there_a m_now_a m_kinds_a m_targets_a m_predicates_a m_numbers_a m_puts_a m_codes_a m_weights_a m_sets_a m_picks_a m_classes_a m_steps_a m_told_a cI cZ cB cC m_rules m_changes m_mostTries m_tried m_settled m_found m_isCovered m_covered m_toldMany m_there m_now m_kinds m_targets m_predicates m_numbers m_puts m_codes m_weights m_sets m_picks m_classes_r m_steps m_told)) ([.ref m_a, .int v1, .int v2] : List Value).toArray s 0 0 A) (F0 m 230 ls []) := by
    intro i5x24 i6x24 m_classesx24 H locs ls hm hP hD hS hl
    unfold mK5_holds_A24 at hm
    refine lv_aload_n hx hb dK5_holds_230 rfl (lv_at hl 0 rfl) ?_
    refine va_get (D := D) (ci := 5) (v := .ref m_kinds_a) (C := RK5) (T := TK5) (N := 23) hx hb hts inK5 hown hK hP 0 rfl rfl 3 (by decide) (hts _ wdt3_189) (fun _ h9 => h9) rfl dK5_holds_231 ?_
    refine lv_iload_n hx hb dK5_holds_234 rfl (lv_at hl 1 rfl) ?_
    obtain ⟨x3, ex3, hm⟩ := bd1_s hm
    obtain ⟨hix3, ex3⟩ := rd_s ex3
    refine va_iald hx hb hK hP 3 0 rfl rfl hix3 dK5_holds_235 ?_
    refine topi ex3 ?_
    refine lv_if_ne (tgt := 254) hx hb dK5_holds_236 (by decide) (fun hc => ?_) (fun hc => ?_)
    · replace hm := iff_ hm hc
      refine lv_aload_n hx hb dK5_holds_254 rfl (lv_at hl 0 rfl) ?_
      refine va_get (D := D) (ci := 5) (v := .ref m_kinds_a) (C := RK5) (T := TK5) (N := 23) hx hb hts inK5 hown hK hP 0 rfl rfl 3 (by decide) (hts _ wdt3_189) (fun _ h9 => h9) rfl dK5_holds_255 ?_
      refine lv_iload_n hx hb dK5_holds_258 rfl (lv_at hl 1 rfl) ?_
      obtain ⟨x4, ex4, hm⟩ := bd1_s hm
      obtain ⟨hix4, ex4⟩ := rd_s ex4
      refine va_iald hx hb hK hP 3 0 rfl rfl hix4 dK5_holds_259 ?_
      refine topi ex4 ?_
      refine lv_iconst (v := 1) hx hb dK5_holds_260 (by decide) ?_
      refine lv_icmp_ne (tgt := 279) hx hb dK5_holds_261 (by decide) (fun hc => ?_) (fun hc => ?_)
      · replace hm := iff_ hm hc
        refine lv_iload hx hb dK5_holds_279 (lv_at hl 4 rfl) ?_
        obtain ⟨x5, ex5, hm⟩ := bd1_s hm
        obtain ⟨eex5, hzx5⟩ := bz_s ex5
        refine topi eex5 ?_
        replace hm := Option.some.inj hm
        simp only [Prod.mk.injEq] at hm
        obtain ⟨rfl, rfl⟩ := hm
        exact k_retz hx hb hr hlocks (bz_n hzx5) hP hD hS dK5_holds_281
      · replace hm := ift hm hc
        refine lv_iload hx hb dK5_holds_264 (lv_at hl 3 rfl) ?_
        refine lv_iload hx hb dK5_holds_266 (lv_at hl 2 rfl) ?_
        refine lv_icmp_gt (tgt := 275) hx hb dK5_holds_268 (by decide) (fun hc => ?_) (fun hc => ?_)
        · replace hm := ift hm hc
          refine lv_iconst (v := 0) hx hb dK5_holds_275 (by decide) ?_
          refine lv_goto (tgt := 281) hx hb dK5_holds_276 (by decide) ?_
          replace hm := Option.some.inj hm
          simp only [Prod.mk.injEq] at hm
          obtain ⟨rfl, rfl⟩ := hm
          exact k_retz hx hb hr hlocks rfl hP hD hS dK5_holds_281
        · replace hm := iff_ hm hc
          refine lv_iconst (v := 1) hx hb dK5_holds_271 (by decide) ?_
          refine lv_goto (tgt := 281) hx hb dK5_holds_272 (by decide) ?_
          replace hm := Option.some.inj hm
          simp only [Prod.mk.injEq] at hm
          obtain ⟨rfl, rfl⟩ := hm
          exact k_retz hx hb hr hlocks rfl hP hD hS dK5_holds_281
    · replace hm := ift hm hc
      refine lv_iload hx hb dK5_holds_239 (lv_at hl 3 rfl) ?_
      refine lv_iload hx hb dK5_holds_241 (lv_at hl 2 rfl) ?_
      refine lv_icmp_lt (tgt := 250) hx hb dK5_holds_243 (by decide) (fun hc => ?_) (fun hc => ?_)
      · replace hm := ift hm hc
        refine lv_iconst (v := 0) hx hb dK5_holds_250 (by decide) ?_
        refine lv_goto (tgt := 281) hx hb dK5_holds_251 (by decide) ?_
        replace hm := Option.some.inj hm
        simp only [Prod.mk.injEq] at hm
        obtain ⟨rfl, rfl⟩ := hm
        exact k_retz hx hb hr hlocks rfl hP hD hS dK5_holds_281
      · replace hm := iff_ hm hc
        refine lv_iconst (v := 1) hx hb dK5_holds_246 (by decide) ?_
        refine lv_goto (tgt := 281) hx hb dK5_holds_247 (by decide) ?_
        replace hm := Option.some.inj hm
        simp only [Prod.mk.injEq] at hm
        obtain ⟨rfl, rfl⟩ := hm
        exact k_retz hx hb hr hlocks rfl hP hD hS dK5_holds_281
  have lp24 : ∀ (n24 : Nat) (i5l24 : Int32) (i6l24 : Int32) (i7l24 : Int32) (m_classesl24 : Nat → Int32) (H : Heap) (locs : List Loc) (ls : Array Slot), mK5_holds_L24 m_now m_kinds v1 v2 x1 x2 (mK5_holds_A24 m_kinds v1 x2) n24 i5l24 i6l24 i7l24 m_classesl24 = some (r0, m_classes_r) → va_P D vwCl (wX m_a m_there_a m_now_a m_kinds_a m_targets_a m_predicates_a m_numbers_a m_puts_a m_codes_a m_weights_a m_sets_a m_picks_a m_classes_a m_steps_a m_told_a cI cZ cB cC m_rules m_changes m_mostTries m_tried m_settled m_found m_isCovered m_covered m_toldMany m_there m_now m_kinds m_targets m_predicates m_numbers m_puts m_codes m_weights m_sets m_picks m_classesl24 m_steps m_told) H → va_D A (wX m_a m_there_a m_now_a m_kinds_a m_targets_a m_predicates_a m_numbers_a m_puts_a m_codes_a m_weights_a m_sets_a m_picks_a m_classes_a m_steps_a m_told_a cI cZ cB cC m_rules m_changes m_mostTries m_tried m_settled m_found m_isCovered m_covered m_toldMany m_there m_now m_kinds m_targets m_predicates m_numbers m_puts m_codes m_weights m_sets m_picks m_classesl24 m_steps m_told) → va_S A s.heap H locs → lv_has ls 9 [(7, .int i7l24), (6, .int i6l24), (5, .int i5l24), (4, .int x2), (3, .int x1), (0, .ref m_a), (1, .int v1), (2, .int v2)] → W p l e (headSpec wsK5_holds rmK5_holds).room s m ([.ref m_a, .int v1, .int v2] : List Value).toArray below meth c H locs 0 0 (MQ below (QI D A r0 (wX m_a m_there_a m_now_a m_kinds_a m_targets_a m_predicates_a m_numbers_a m_puts_a m_codes_a m_weights_a m_sets_a m_picks_a m_classes_a m_steps_a m_told_a cI cZ cB cC m_rules m_changes m_mostTries m_tried m_settled m_found m_isCovered m_covered m_toldMany m_there m_now m_kinds m_targets m_predicates m_numbers m_puts m_codes m_weights m_sets m_picks m_classes_r m_steps m_told)) ([.ref m_a, .int v1, .int v2] : List Value).toArray s 0 0 A) (F0 m 24 ls []) := by
    intro n24
    induction n24 with
    | zero => intro i5l24 i6l24 i7l24 m_classesl24 H locs ls hm; exact nomatch (show none = _ from hm)
    | succ n24 ih24 =>
      intro i5l24 i6l24 i7l24 m_classesl24 H locs ls hm hP hD hS hl
      replace hm : mK5_holds_B24 m_now m_kinds v1 v2 x1 x2 (mK5_holds_A24 m_kinds v1 x2) (mK5_holds_L24 m_now m_kinds v1 v2 x1 x2 (mK5_holds_A24 m_kinds v1 x2) n24) i5l24 i6l24 i7l24 m_classesl24 = some (r0, m_classes_r) := hm
      unfold mK5_holds_B24 at hm
      refine lv_iload hx hb dK5_holds_24 (lv_at hl 0 rfl) ?_
      refine lv_bipush (v := 12) hx hb dK5_holds_26 (by decide) ?_
      refine lv_icmp_ge (tgt := 230) hx hb dK5_holds_28 (by decide) (fun hc => ?_) (fun hc => ?_)
      · replace hm := ift hm hc
        exact lx24 i5l24 i6l24 m_classesl24 _ _ _ hm hP hD hS (lv_sub hl [5, 6, 3, 2, 1] rfl)
      · replace hm := iff_ hm hc
        refine lv_aload_n hx hb dK5_holds_31 rfl (lv_at hl 5 rfl) ?_
        refine va_get (D := D) (ci := 5) (v := .ref m_now_a) (C := RK5) (T := TK5) (N := 23) hx hb hts inK5 hown hK hP 0 rfl rfl 1 (by decide) (hts _ wdt3_187) (fun _ h9 => h9) rfl dK5_holds_32 ?_
        refine lv_iload_n hx hb dK5_holds_35 rfl (lv_at hl 7 rfl) ?_
        refine lv_iload_n hx hb dK5_holds_36 rfl (lv_at hl 4 rfl) ?_
        refine lv_iload hx hb dK5_holds_37 (lv_at hl 0 rfl) ?_
        obtain ⟨x6, ec7, hm⟩ := bd1_s hm
        have hPc : va_P D vwCl [] H := va_P0
        have hDc : va_D A [] := va_D0
        refine k_calli0 (va_runS (As := [.int v2, .int x1, .int i7l24]) (rest := [.ref m_now_a]) ⟨hx, hb, hml, hown, hts⟩ (kK5_codeOf l D cI cZ cB cC H.size v2 x1 i7l24 x6 ec7) (va_cwS 3 hts (gdS wdt4_26 wdt4_27 wdt1_10 gkK5_codeOf) rfl rfl rfl (by decide +kernel) ⟨Nat.le_of_ble_eq_true rfl, Nat.le_of_ble_eq_true rfl⟩) ⟨Pr_blind, fun U hU hW => ⟨rfl, Pr_at hK hN hPc hDc hU hW⟩⟩ rfl rfl hl.1 rfl (lv_room (Nat.le_of_ble_eq_true rfl)) dK5_holds_39 ⟨Nat.le_of_ble_eq_true rfl, Nat.le_of_ble_eq_true rfl⟩) hP hD hS hA (fun H locs hP hD hS => ?_)
        obtain ⟨x8, ex8, hm⟩ := bd1_s hm
        obtain ⟨hix8, ex8⟩ := rd_s ex8
        refine va_zald hx hb hK hP 2 1 rfl rfl hix8 dK5_holds_42 ?_
        refine topi ex8 ?_
        refine lv_istore (lv' := [(8, .int x8), (7, .int i7l24), (6, .int i6l24), (5, .int i5l24), (4, .int x2), (3, .int x1), (0, .ref m_a), (1, .int v1), (2, .int v2)]) hx hb dK5_holds_43 hl (by decide) rfl (fun ls hl => ?_)
        refine lv_iload hx hb dK5_holds_45 (lv_at hl 3 rfl) ?_
        refine lv_iload hx hb dK5_holds_47 (lv_at hl 0 rfl) ?_
        have jn57 : ∀ (s1j57 : Int32) (H : Heap) (locs : List Loc) (ls : Array Slot), mK5_holds_J57 m_now m_kinds v1 v2 x2 i5l24 i6l24 i7l24 m_classesl24 (mK5_holds_L24 m_now m_kinds v1 v2 x1 x2 (mK5_holds_A24 m_kinds v1 x2) n24) x8 s1j57 = some (r0, m_classes_r) → va_P D vwCl (wX m_a m_there_a m_now_a m_kinds_a m_targets_a m_predicates_a m_numbers_a m_puts_a m_codes_a m_weights_a m_sets_a m_picks_a m_classes_a m_steps_a m_told_a cI cZ cB cC m_rules m_changes m_mostTries m_tried m_settled m_found m_isCovered m_covered m_toldMany m_there m_now m_kinds m_targets m_predicates m_numbers m_puts m_codes m_weights m_sets m_picks m_classesl24 m_steps m_told) H → va_D A (wX m_a m_there_a m_now_a m_kinds_a m_targets_a m_predicates_a m_numbers_a m_puts_a m_codes_a m_weights_a m_sets_a m_picks_a m_classes_a m_steps_a m_told_a cI cZ cB cC m_rules m_changes m_mostTries m_tried m_settled m_found m_isCovered m_covered m_toldMany m_there m_now m_kinds m_targets m_predicates m_numbers m_puts m_codes m_weights m_sets m_picks m_classesl24 m_steps m_told) → va_S A s.heap H locs → lv_has ls 9 [(0, .ref m_a), (1, .int v1), (2, .int v2), (3, .int x1), (4, .int x2), (6, .int i6l24), (7, .int i7l24), (8, .int x8)] → W p l e (headSpec wsK5_holds rmK5_holds).room s m ([.ref m_a, .int v1, .int v2] : List Value).toArray below meth c H locs 0 0 (MQ below (QI D A r0 (wX m_a m_there_a m_now_a m_kinds_a m_targets_a m_predicates_a m_numbers_a m_puts_a m_codes_a m_weights_a m_sets_a m_picks_a m_classes_a m_steps_a m_told_a cI cZ cB cC m_rules m_changes m_mostTries m_tried m_settled m_found m_isCovered m_covered m_toldMany m_there m_now m_kinds m_targets m_predicates m_numbers m_puts m_codes m_weights m_sets m_picks m_classes_r m_steps m_told)) ([.ref m_a, .int v1, .int v2] : List Value).toArray s 0 0 A) (F0 m 57 ls [.int s1j57, .int i5l24]) := by
          intro s1j57 H locs ls hm hP hD hS hl
          unfold mK5_holds_J57 at hm
          refine lv_iadd hx hb dK5_holds_57 ?_
          obtain ⟨x9, ex9, hm⟩ := bd1_s hm
          refine topi (Option.some.inj ex9) ?_
          refine lv_istore (lv' := [(5, .int x9), (0, .ref m_a), (1, .int v1), (2, .int v2), (3, .int x1), (4, .int x2), (6, .int i6l24), (7, .int i7l24), (8, .int x8)]) hx hb dK5_holds_58 hl (by decide) rfl (fun ls hl => ?_)
          refine lv_aload_n hx hb dK5_holds_60 rfl (lv_at hl 1 rfl) ?_
          refine va_get (D := D) (ci := 5) (v := .ref m_kinds_a) (C := RK5) (T := TK5) (N := 23) hx hb hts inK5 hown hK hP 0 rfl rfl 3 (by decide) (hts _ wdt3_189) (fun _ h9 => h9) rfl dK5_holds_61 ?_
          refine lv_iload_n hx hb dK5_holds_64 rfl (lv_at hl 2 rfl) ?_
          obtain ⟨x10, ex10, hm⟩ := bd1_s hm
          obtain ⟨hix10, ex10⟩ := rd_s ex10
          refine va_iald hx hb hK hP 3 0 rfl rfl hix10 dK5_holds_65 ?_
          refine topi ex10 ?_
          refine lv_iconst (v := 2) hx hb dK5_holds_66 (by decide) ?_
          refine lv_icmp_ne (tgt := 101) hx hb dK5_holds_67 (by decide) (fun hc => ?_) (fun hc => ?_)
          · replace hm := iff_ hm hc
            refine lv_aload_n hx hb dK5_holds_101 rfl (lv_at hl 1 rfl) ?_
            refine va_get (D := D) (ci := 5) (v := .ref m_kinds_a) (C := RK5) (T := TK5) (N := 23) hx hb hts inK5 hown hK hP 0 rfl rfl 3 (by decide) (hts _ wdt3_189) (fun _ h9 => h9) rfl dK5_holds_102 ?_
            refine lv_iload_n hx hb dK5_holds_105 rfl (lv_at hl 2 rfl) ?_
            obtain ⟨x11, ex11, hm⟩ := bd1_s hm
            obtain ⟨hix11, ex11⟩ := rd_s ex11
            refine va_iald hx hb hK hP 3 0 rfl rfl hix11 dK5_holds_106 ?_
            refine topi ex11 ?_
            refine lv_iconst (v := 3) hx hb dK5_holds_107 (by decide) ?_
            refine lv_icmp_ne (tgt := 138) hx hb dK5_holds_108 (by decide) (fun hc => ?_) (fun hc => ?_)
            · replace hm := iff_ hm hc
              refine lv_aload_n hx hb dK5_holds_138 rfl (lv_at hl 1 rfl) ?_
              refine va_get (D := D) (ci := 5) (v := .ref m_kinds_a) (C := RK5) (T := TK5) (N := 23) hx hb hts inK5 hown hK hP 0 rfl rfl 3 (by decide) (hts _ wdt3_189) (fun _ h9 => h9) rfl dK5_holds_139 ?_
              refine lv_iload_n hx hb dK5_holds_142 rfl (lv_at hl 2 rfl) ?_
              obtain ⟨x12, ex12, hm⟩ := bd1_s hm
              obtain ⟨hix12, ex12⟩ := rd_s ex12
              refine va_iald hx hb hK hP 3 0 rfl rfl hix12 dK5_holds_143 ?_
              refine topi ex12 ?_
              refine lv_iconst (v := 4) hx hb dK5_holds_144 (by decide) ?_
              refine lv_icmp_ne (tgt := 181) hx hb dK5_holds_145 (by decide) (fun hc => ?_) (fun hc => ?_)
              · replace hm := iff_ hm hc
                refine lv_aload_n hx hb dK5_holds_181 rfl (lv_at hl 1 rfl) ?_
                refine va_get (D := D) (ci := 5) (v := .ref m_kinds_a) (C := RK5) (T := TK5) (N := 23) hx hb hts inK5 hown hK hP 0 rfl rfl 3 (by decide) (hts _ wdt3_189) (fun _ h9 => h9) rfl dK5_holds_182 ?_
                refine lv_iload_n hx hb dK5_holds_185 rfl (lv_at hl 2 rfl) ?_
                obtain ⟨x13, ex13, hm⟩ := bd1_s hm
                obtain ⟨hix13, ex13⟩ := rd_s ex13
                refine va_iald hx hb hK hP 3 0 rfl rfl hix13 dK5_holds_186 ?_
                refine topi ex13 ?_
                refine lv_iconst (v := 5) hx hb dK5_holds_187 (by decide) ?_
                refine lv_icmp_ne (tgt := 224) hx hb dK5_holds_188 (by decide) (fun hc => ?_) (fun hc => ?_)
                · replace hm := iff_ hm hc
                  obtain ⟨x14, ex14, hm⟩ := bd1_s hm
                  refine lv_iinc (v := x14) (lv' := [(7, .int x14), (5, .int x9), (0, .ref m_a), (1, .int v1), (2, .int v2), (3, .int x1), (4, .int x2), (6, .int i6l24), (8, .int x8)]) hx hb dK5_holds_224 hl (k := 7) rfl (by rw [← Option.some.inj ex14]; rfl) (by decide) rfl (fun ls hl => ?_)
                  refine lv_goto (tgt := 24) hx hb dK5_holds_227 (by decide) ?_
                  exact ih24 x9 i6l24 x14 m_classesl24 _ _ _ hm hP hD hS (lv_sub hl [0, 7, 1, 6, 5, 2, 3, 4] rfl)
                · replace hm := ift hm hc
                  refine lv_iload hx hb dK5_holds_191 (lv_at hl 6 rfl) ?_
                  refine lv_if_eq (tgt := 221) hx hb dK5_holds_193 (by decide) (fun hc => ?_) (fun hc => ?_)
                  · replace hm := ift hm hc
                    refine lv_iconst (v := 0) hx hb dK5_holds_221 (by decide) ?_
                    refine lv_istore (lv' := [(6, .int 0), (5, .int x9), (0, .ref m_a), (1, .int v1), (2, .int v2), (3, .int x1), (4, .int x2), (7, .int i7l24), (8, .int x8)]) hx hb dK5_holds_222 hl (by decide) rfl (fun ls hl => ?_)
                    obtain ⟨x15, ex15, hm⟩ := bd1_s hm
                    refine lv_iinc (v := x15) (lv' := [(7, .int x15), (6, .int 0), (5, .int x9), (0, .ref m_a), (1, .int v1), (2, .int v2), (3, .int x1), (4, .int x2), (8, .int x8)]) hx hb dK5_holds_224 hl (k := 7) rfl (by rw [← Option.some.inj ex15]; rfl) (by decide) rfl (fun ls hl => ?_)
                    refine lv_goto (tgt := 24) hx hb dK5_holds_227 (by decide) ?_
                    exact ih24 x9 0 x15 m_classesl24 _ _ _ hm hP hD hS (lv_sub hl [0, 1, 2, 7, 6, 3, 4, 5] rfl)
                  · replace hm := iff_ hm hc
                    refine lv_iload hx hb dK5_holds_196 (lv_at hl 8 rfl) ?_
                    refine lv_if_eq (tgt := 217) hx hb dK5_holds_198 (by decide) (fun hc => ?_) (fun hc => ?_)
                    · replace hm := ift hm hc
                      refine lv_iconst (v := 1) hx hb dK5_holds_217 (by decide) ?_
                      refine lv_goto (tgt := 222) hx hb dK5_holds_218 (by decide) ?_
                      refine lv_istore (lv' := [(6, .int 1), (5, .int x9), (0, .ref m_a), (1, .int v1), (2, .int v2), (3, .int x1), (4, .int x2), (7, .int i7l24), (8, .int x8)]) hx hb dK5_holds_222 hl (by decide) rfl (fun ls hl => ?_)
                      obtain ⟨x16, ex16, hm⟩ := bd1_s hm
                      refine lv_iinc (v := x16) (lv' := [(7, .int x16), (6, .int 1), (5, .int x9), (0, .ref m_a), (1, .int v1), (2, .int v2), (3, .int x1), (4, .int x2), (8, .int x8)]) hx hb dK5_holds_224 hl (k := 7) rfl (by rw [← Option.some.inj ex16]; rfl) (by decide) rfl (fun ls hl => ?_)
                      refine lv_goto (tgt := 24) hx hb dK5_holds_227 (by decide) ?_
                      exact ih24 x9 1 x16 m_classesl24 _ _ _ hm hP hD hS (lv_sub hl [0, 1, 2, 7, 6, 3, 4, 5] rfl)
                    · replace hm := iff_ hm hc
                      refine lv_aload_n hx hb dK5_holds_201 rfl (lv_at hl 1 rfl) ?_
                      refine va_get (D := D) (ci := 5) (v := .ref m_now_a) (C := RK5) (T := TK5) (N := 23) hx hb hts inK5 hown hK hP 0 rfl rfl 1 (by decide) (hts _ wdt3_187) (fun _ h9 => h9) rfl dK5_holds_202 ?_
                      refine lv_iload_n hx hb dK5_holds_205 rfl (lv_at hl 3 rfl) ?_
                      refine lv_iload hx hb dK5_holds_206 (lv_at hl 5 rfl) ?_
                      refine lv_iload hx hb dK5_holds_208 (lv_at hl 7 rfl) ?_
                      obtain ⟨x17, ec18, hm⟩ := bd1_s hm
                      have hPc : va_P D vwCl [] H := va_P0
                      have hDc : va_D A [] := va_D0
                      refine k_calli0 (va_runS (As := [.int v2, .int x2, .int i7l24]) (rest := [.ref m_now_a]) ⟨hx, hb, hml, hown, hts⟩ (kK5_codeOf l D cI cZ cB cC H.size v2 x2 i7l24 x17 ec18) (va_cwS 3 hts (gdS wdt4_26 wdt4_27 wdt1_10 gkK5_codeOf) rfl rfl rfl (by decide +kernel) ⟨Nat.le_of_ble_eq_true rfl, Nat.le_of_ble_eq_true rfl⟩) ⟨Pr_blind, fun U hU hW => ⟨rfl, Pr_at hK hN hPc hDc hU hW⟩⟩ rfl rfl hl.1 rfl (lv_room (Nat.le_of_ble_eq_true rfl)) dK5_holds_210 ⟨Nat.le_of_ble_eq_true rfl, Nat.le_of_ble_eq_true rfl⟩) hP hD hS hA (fun H locs hP hD hS => ?_)
                      obtain ⟨x19, ex19, hm⟩ := bd1_s hm
                      obtain ⟨hix19, ex19⟩ := rd_s ex19
                      refine va_zald hx hb hK hP 2 1 rfl rfl hix19 dK5_holds_213 ?_
                      refine topi ex19 ?_
                      refine lv_if_ne (tgt := 221) hx hb dK5_holds_214 (by decide) (fun hc => ?_) (fun hc => ?_)
                      · replace hm := iff_ hm hc
                        refine lv_iconst (v := 0) hx hb dK5_holds_221 (by decide) ?_
                        refine lv_istore (lv' := [(6, .int 0), (5, .int x9), (0, .ref m_a), (1, .int v1), (2, .int v2), (3, .int x1), (4, .int x2), (7, .int i7l24), (8, .int x8)]) hx hb dK5_holds_222 hl (by decide) rfl (fun ls hl => ?_)
                        obtain ⟨x20, ex20, hm⟩ := bd1_s hm
                        refine lv_iinc (v := x20) (lv' := [(7, .int x20), (6, .int 0), (5, .int x9), (0, .ref m_a), (1, .int v1), (2, .int v2), (3, .int x1), (4, .int x2), (8, .int x8)]) hx hb dK5_holds_224 hl (k := 7) rfl (by rw [← Option.some.inj ex20]; rfl) (by decide) rfl (fun ls hl => ?_)
                        refine lv_goto (tgt := 24) hx hb dK5_holds_227 (by decide) ?_
                        exact ih24 x9 0 x20 m_classesl24 _ _ _ hm hP hD hS (lv_sub hl [0, 1, 2, 7, 6, 3, 4, 5] rfl)
                      · replace hm := ift hm hc
                        refine lv_iconst (v := 1) hx hb dK5_holds_217 (by decide) ?_
                        refine lv_goto (tgt := 222) hx hb dK5_holds_218 (by decide) ?_
                        refine lv_istore (lv' := [(6, .int 1), (5, .int x9), (0, .ref m_a), (1, .int v1), (2, .int v2), (3, .int x1), (4, .int x2), (7, .int i7l24), (8, .int x8)]) hx hb dK5_holds_222 hl (by decide) rfl (fun ls hl => ?_)
                        obtain ⟨x21, ex21, hm⟩ := bd1_s hm
                        refine lv_iinc (v := x21) (lv' := [(7, .int x21), (6, .int 1), (5, .int x9), (0, .ref m_a), (1, .int v1), (2, .int v2), (3, .int x1), (4, .int x2), (8, .int x8)]) hx hb dK5_holds_224 hl (k := 7) rfl (by rw [← Option.some.inj ex21]; rfl) (by decide) rfl (fun ls hl => ?_)
                        refine lv_goto (tgt := 24) hx hb dK5_holds_227 (by decide) ?_
                        exact ih24 x9 1 x21 m_classesl24 _ _ _ hm hP hD hS (lv_sub hl [0, 1, 2, 7, 6, 3, 4, 5] rfl)
              · replace hm := ift hm hc
                refine lv_iload hx hb dK5_holds_148 (lv_at hl 6 rfl) ?_
                refine lv_if_eq (tgt := 175) hx hb dK5_holds_150 (by decide) (fun hc => ?_) (fun hc => ?_)
                · replace hm := ift hm hc
                  refine lv_iconst (v := 0) hx hb dK5_holds_175 (by decide) ?_
                  refine lv_istore (lv' := [(6, .int 0), (5, .int x9), (0, .ref m_a), (1, .int v1), (2, .int v2), (3, .int x1), (4, .int x2), (7, .int i7l24), (8, .int x8)]) hx hb dK5_holds_176 hl (by decide) rfl (fun ls hl => ?_)
                  refine lv_goto (tgt := 224) hx hb dK5_holds_178 (by decide) ?_
                  obtain ⟨x22, ex22, hm⟩ := bd1_s hm
                  refine lv_iinc (v := x22) (lv' := [(7, .int x22), (6, .int 0), (5, .int x9), (0, .ref m_a), (1, .int v1), (2, .int v2), (3, .int x1), (4, .int x2), (8, .int x8)]) hx hb dK5_holds_224 hl (k := 7) rfl (by rw [← Option.some.inj ex22]; rfl) (by decide) rfl (fun ls hl => ?_)
                  refine lv_goto (tgt := 24) hx hb dK5_holds_227 (by decide) ?_
                  exact ih24 x9 0 x22 m_classesl24 _ _ _ hm hP hD hS (lv_sub hl [0, 1, 2, 7, 6, 3, 4, 5] rfl)
                · replace hm := iff_ hm hc
                  refine lv_iload hx hb dK5_holds_153 (lv_at hl 8 rfl) ?_
                  refine lv_aload_n hx hb dK5_holds_155 rfl (lv_at hl 1 rfl) ?_
                  refine va_get (D := D) (ci := 5) (v := .ref m_now_a) (C := RK5) (T := TK5) (N := 23) hx hb hts inK5 hown hK hP 0 rfl rfl 1 (by decide) (hts _ wdt3_187) (fun _ h9 => h9) rfl dK5_holds_156 ?_
                  refine lv_iload_n hx hb dK5_holds_159 rfl (lv_at hl 3 rfl) ?_
                  refine lv_iload hx hb dK5_holds_160 (lv_at hl 5 rfl) ?_
                  refine lv_iload hx hb dK5_holds_162 (lv_at hl 7 rfl) ?_
                  obtain ⟨x23, ec24, hm⟩ := bd1_s hm
                  have hPc : va_P D vwCl [] H := va_P0
                  have hDc : va_D A [] := va_D0
                  refine k_calli0 (va_runS (As := [.int v2, .int x2, .int i7l24]) (rest := [.ref m_now_a, .int x8]) ⟨hx, hb, hml, hown, hts⟩ (kK5_codeOf l D cI cZ cB cC H.size v2 x2 i7l24 x23 ec24) (va_cwS 3 hts (gdS wdt4_26 wdt4_27 wdt1_10 gkK5_codeOf) rfl rfl rfl (by decide +kernel) ⟨Nat.le_of_ble_eq_true rfl, Nat.le_of_ble_eq_true rfl⟩) ⟨Pr_blind, fun U hU hW => ⟨rfl, Pr_at hK hN hPc hDc hU hW⟩⟩ rfl rfl hl.1 rfl (lv_room (Nat.le_of_ble_eq_true rfl)) dK5_holds_164 ⟨Nat.le_of_ble_eq_true rfl, Nat.le_of_ble_eq_true rfl⟩) hP hD hS hA (fun H locs hP hD hS => ?_)
                  obtain ⟨x25, ex25, hm⟩ := bd1_s hm
                  obtain ⟨hix25, ex25⟩ := rd_s ex25
                  refine va_zald hx hb hK hP 2 1 rfl rfl hix25 dK5_holds_167 ?_
                  refine topi ex25 ?_
                  refine lv_icmp_ne (tgt := 175) hx hb dK5_holds_168 (by decide) (fun hc => ?_) (fun hc => ?_)
                  · replace hm := iff_ hm hc
                    refine lv_iconst (v := 0) hx hb dK5_holds_175 (by decide) ?_
                    refine lv_istore (lv' := [(6, .int 0), (5, .int x9), (0, .ref m_a), (1, .int v1), (2, .int v2), (3, .int x1), (4, .int x2), (7, .int i7l24), (8, .int x8)]) hx hb dK5_holds_176 hl (by decide) rfl (fun ls hl => ?_)
                    refine lv_goto (tgt := 224) hx hb dK5_holds_178 (by decide) ?_
                    obtain ⟨x26, ex26, hm⟩ := bd1_s hm
                    refine lv_iinc (v := x26) (lv' := [(7, .int x26), (6, .int 0), (5, .int x9), (0, .ref m_a), (1, .int v1), (2, .int v2), (3, .int x1), (4, .int x2), (8, .int x8)]) hx hb dK5_holds_224 hl (k := 7) rfl (by rw [← Option.some.inj ex26]; rfl) (by decide) rfl (fun ls hl => ?_)
                    refine lv_goto (tgt := 24) hx hb dK5_holds_227 (by decide) ?_
                    exact ih24 x9 0 x26 m_classesl24 _ _ _ hm hP hD hS (lv_sub hl [0, 1, 2, 7, 6, 3, 4, 5] rfl)
                  · replace hm := ift hm hc
                    refine lv_iconst (v := 1) hx hb dK5_holds_171 (by decide) ?_
                    refine lv_goto (tgt := 176) hx hb dK5_holds_172 (by decide) ?_
                    refine lv_istore (lv' := [(6, .int 1), (5, .int x9), (0, .ref m_a), (1, .int v1), (2, .int v2), (3, .int x1), (4, .int x2), (7, .int i7l24), (8, .int x8)]) hx hb dK5_holds_176 hl (by decide) rfl (fun ls hl => ?_)
                    refine lv_goto (tgt := 224) hx hb dK5_holds_178 (by decide) ?_
                    obtain ⟨x27, ex27, hm⟩ := bd1_s hm
                    refine lv_iinc (v := x27) (lv' := [(7, .int x27), (6, .int 1), (5, .int x9), (0, .ref m_a), (1, .int v1), (2, .int v2), (3, .int x1), (4, .int x2), (8, .int x8)]) hx hb dK5_holds_224 hl (k := 7) rfl (by rw [← Option.some.inj ex27]; rfl) (by decide) rfl (fun ls hl => ?_)
                    refine lv_goto (tgt := 24) hx hb dK5_holds_227 (by decide) ?_
                    exact ih24 x9 1 x27 m_classesl24 _ _ _ hm hP hD hS (lv_sub hl [0, 1, 2, 7, 6, 3, 4, 5] rfl)
            · replace hm := ift hm hc
              refine lv_iload hx hb dK5_holds_111 (lv_at hl 6 rfl) ?_
              refine lv_if_eq (tgt := 132) hx hb dK5_holds_113 (by decide) (fun hc => ?_) (fun hc => ?_)
              · replace hm := ift hm hc
                refine lv_iconst (v := 0) hx hb dK5_holds_132 (by decide) ?_
                refine lv_istore (lv' := [(6, .int 0), (5, .int x9), (0, .ref m_a), (1, .int v1), (2, .int v2), (3, .int x1), (4, .int x2), (7, .int i7l24), (8, .int x8)]) hx hb dK5_holds_133 hl (by decide) rfl (fun ls hl => ?_)
                refine lv_goto (tgt := 224) hx hb dK5_holds_135 (by decide) ?_
                obtain ⟨x28, ex28, hm⟩ := bd1_s hm
                refine lv_iinc (v := x28) (lv' := [(7, .int x28), (6, .int 0), (5, .int x9), (0, .ref m_a), (1, .int v1), (2, .int v2), (3, .int x1), (4, .int x2), (8, .int x8)]) hx hb dK5_holds_224 hl (k := 7) rfl (by rw [← Option.some.inj ex28]; rfl) (by decide) rfl (fun ls hl => ?_)
                refine lv_goto (tgt := 24) hx hb dK5_holds_227 (by decide) ?_
                exact ih24 x9 0 x28 m_classesl24 _ _ _ hm hP hD hS (lv_sub hl [0, 1, 2, 7, 6, 3, 4, 5] rfl)
              · replace hm := iff_ hm hc
                refine lv_iload hx hb dK5_holds_116 (lv_at hl 8 rfl) ?_
                refine lv_if_eq (tgt := 128) hx hb dK5_holds_118 (by decide) (fun hc => ?_) (fun hc => ?_)
                · replace hm := ift hm hc
                  refine lv_iconst (v := 1) hx hb dK5_holds_128 (by decide) ?_
                  refine lv_goto (tgt := 133) hx hb dK5_holds_129 (by decide) ?_
                  refine lv_istore (lv' := [(6, .int 1), (5, .int x9), (0, .ref m_a), (1, .int v1), (2, .int v2), (3, .int x1), (4, .int x2), (7, .int i7l24), (8, .int x8)]) hx hb dK5_holds_133 hl (by decide) rfl (fun ls hl => ?_)
                  refine lv_goto (tgt := 224) hx hb dK5_holds_135 (by decide) ?_
                  obtain ⟨x29, ex29, hm⟩ := bd1_s hm
                  refine lv_iinc (v := x29) (lv' := [(7, .int x29), (6, .int 1), (5, .int x9), (0, .ref m_a), (1, .int v1), (2, .int v2), (3, .int x1), (4, .int x2), (8, .int x8)]) hx hb dK5_holds_224 hl (k := 7) rfl (by rw [← Option.some.inj ex29]; rfl) (by decide) rfl (fun ls hl => ?_)
                  refine lv_goto (tgt := 24) hx hb dK5_holds_227 (by decide) ?_
                  exact ih24 x9 1 x29 m_classesl24 _ _ _ hm hP hD hS (lv_sub hl [0, 1, 2, 7, 6, 3, 4, 5] rfl)
                · replace hm := iff_ hm hc
                  refine lv_iload hx hb dK5_holds_121 (lv_at hl 7 rfl) ?_
                  refine lv_iload hx hb dK5_holds_123 (lv_at hl 5 rfl) ?_
                  refine lv_icmp_eq (tgt := 132) hx hb dK5_holds_125 (by decide) (fun hc => ?_) (fun hc => ?_)
                  · replace hm := ift hm hc
                    refine lv_iconst (v := 0) hx hb dK5_holds_132 (by decide) ?_
                    refine lv_istore (lv' := [(6, .int 0), (5, .int x9), (0, .ref m_a), (1, .int v1), (2, .int v2), (3, .int x1), (4, .int x2), (7, .int i7l24), (8, .int x8)]) hx hb dK5_holds_133 hl (by decide) rfl (fun ls hl => ?_)
                    refine lv_goto (tgt := 224) hx hb dK5_holds_135 (by decide) ?_
                    obtain ⟨x30, ex30, hm⟩ := bd1_s hm
                    refine lv_iinc (v := x30) (lv' := [(7, .int x30), (6, .int 0), (5, .int x9), (0, .ref m_a), (1, .int v1), (2, .int v2), (3, .int x1), (4, .int x2), (8, .int x8)]) hx hb dK5_holds_224 hl (k := 7) rfl (by rw [← Option.some.inj ex30]; rfl) (by decide) rfl (fun ls hl => ?_)
                    refine lv_goto (tgt := 24) hx hb dK5_holds_227 (by decide) ?_
                    exact ih24 x9 0 x30 m_classesl24 _ _ _ hm hP hD hS (lv_sub hl [0, 1, 2, 7, 6, 3, 4, 5] rfl)
                  · replace hm := iff_ hm hc
                    refine lv_iconst (v := 1) hx hb dK5_holds_128 (by decide) ?_
                    refine lv_goto (tgt := 133) hx hb dK5_holds_129 (by decide) ?_
                    refine lv_istore (lv' := [(6, .int 1), (5, .int x9), (0, .ref m_a), (1, .int v1), (2, .int v2), (3, .int x1), (4, .int x2), (7, .int i7l24), (8, .int x8)]) hx hb dK5_holds_133 hl (by decide) rfl (fun ls hl => ?_)
                    refine lv_goto (tgt := 224) hx hb dK5_holds_135 (by decide) ?_
                    obtain ⟨x31, ex31, hm⟩ := bd1_s hm
                    refine lv_iinc (v := x31) (lv' := [(7, .int x31), (6, .int 1), (5, .int x9), (0, .ref m_a), (1, .int v1), (2, .int v2), (3, .int x1), (4, .int x2), (8, .int x8)]) hx hb dK5_holds_224 hl (k := 7) rfl (by rw [← Option.some.inj ex31]; rfl) (by decide) rfl (fun ls hl => ?_)
                    refine lv_goto (tgt := 24) hx hb dK5_holds_227 (by decide) ?_
                    exact ih24 x9 1 x31 m_classesl24 _ _ _ hm hP hD hS (lv_sub hl [0, 1, 2, 7, 6, 3, 4, 5] rfl)
          · replace hm := ift hm hc
            refine lv_iload hx hb dK5_holds_70 (lv_at hl 6 rfl) ?_
            refine lv_if_eq (tgt := 95) hx hb dK5_holds_72 (by decide) (fun hc => ?_) (fun hc => ?_)
            · replace hm := ift hm hc
              refine lv_iconst (v := 0) hx hb dK5_holds_95 (by decide) ?_
              refine lv_istore (lv' := [(6, .int 0), (5, .int x9), (0, .ref m_a), (1, .int v1), (2, .int v2), (3, .int x1), (4, .int x2), (7, .int i7l24), (8, .int x8)]) hx hb dK5_holds_96 hl (by decide) rfl (fun ls hl => ?_)
              refine lv_goto (tgt := 224) hx hb dK5_holds_98 (by decide) ?_
              obtain ⟨x32, ex32, hm⟩ := bd1_s hm
              refine lv_iinc (v := x32) (lv' := [(7, .int x32), (6, .int 0), (5, .int x9), (0, .ref m_a), (1, .int v1), (2, .int v2), (3, .int x1), (4, .int x2), (8, .int x8)]) hx hb dK5_holds_224 hl (k := 7) rfl (by rw [← Option.some.inj ex32]; rfl) (by decide) rfl (fun ls hl => ?_)
              refine lv_goto (tgt := 24) hx hb dK5_holds_227 (by decide) ?_
              exact ih24 x9 0 x32 m_classesl24 _ _ _ hm hP hD hS (lv_sub hl [0, 1, 2, 7, 6, 3, 4, 5] rfl)
            · replace hm := iff_ hm hc
              refine lv_iload hx hb dK5_holds_75 (lv_at hl 8 rfl) ?_
              refine lv_if_eq (tgt := 91) hx hb dK5_holds_77 (by decide) (fun hc => ?_) (fun hc => ?_)
              · replace hm := ift hm hc
                refine lv_iconst (v := 1) hx hb dK5_holds_91 (by decide) ?_
                refine lv_goto (tgt := 96) hx hb dK5_holds_92 (by decide) ?_
                refine lv_istore (lv' := [(6, .int 1), (5, .int x9), (0, .ref m_a), (1, .int v1), (2, .int v2), (3, .int x1), (4, .int x2), (7, .int i7l24), (8, .int x8)]) hx hb dK5_holds_96 hl (by decide) rfl (fun ls hl => ?_)
                refine lv_goto (tgt := 224) hx hb dK5_holds_98 (by decide) ?_
                obtain ⟨x33, ex33, hm⟩ := bd1_s hm
                refine lv_iinc (v := x33) (lv' := [(7, .int x33), (6, .int 1), (5, .int x9), (0, .ref m_a), (1, .int v1), (2, .int v2), (3, .int x1), (4, .int x2), (8, .int x8)]) hx hb dK5_holds_224 hl (k := 7) rfl (by rw [← Option.some.inj ex33]; rfl) (by decide) rfl (fun ls hl => ?_)
                refine lv_goto (tgt := 24) hx hb dK5_holds_227 (by decide) ?_
                exact ih24 x9 1 x33 m_classesl24 _ _ _ hm hP hD hS (lv_sub hl [0, 1, 2, 7, 6, 3, 4, 5] rfl)
              · replace hm := iff_ hm hc
                refine lv_aload_n hx hb dK5_holds_80 rfl (lv_at hl 1 rfl) ?_
                refine lv_iload hx hb dK5_holds_81 (lv_at hl 7 rfl) ?_
                refine lv_iload hx hb dK5_holds_83 (lv_at hl 5 rfl) ?_
                obtain ⟨x34, x35, ec36, hm⟩ := bd2_s hm
                have hPc := hP.sub (ws' := (wX m_a m_there_a m_now_a m_kinds_a m_targets_a m_predicates_a m_numbers_a m_puts_a m_codes_a m_weights_a m_sets_a m_picks_a m_classes_a m_steps_a m_told_a cI cZ cB cC m_rules m_changes m_mostTries m_tried m_settled m_found m_isCovered m_covered m_toldMany m_there m_now m_kinds m_targets m_predicates m_numbers m_puts m_codes m_weights m_sets m_picks m_classesl24 m_steps m_told)) [0, 1, 2, 3, 4, 5, 6, 7, 8, 9, 10, 11, 12, 13, 14] rfl
                have hDc := hD.sub (ws' := (wX m_a m_there_a m_now_a m_kinds_a m_targets_a m_predicates_a m_numbers_a m_puts_a m_codes_a m_weights_a m_sets_a m_picks_a m_classes_a m_steps_a m_told_a cI cZ cB cC m_rules m_changes m_mostTries m_tried m_settled m_found m_isCovered m_covered m_toldMany m_there m_now m_kinds m_targets m_predicates m_numbers m_puts m_codes m_weights m_sets m_picks m_classesl24 m_steps m_told)) [0, 1, 2, 3, 4, 5, 6, 7, 8, 9, 10, 11, 12, 13, 14] (by decide) rfl
                refine k_calli (wr := []) (w1 := (wX m_a m_there_a m_now_a m_kinds_a m_targets_a m_predicates_a m_numbers_a m_puts_a m_codes_a m_weights_a m_sets_a m_picks_a m_classes_a m_steps_a m_told_a cI cZ cB cC m_rules m_changes m_mostTries m_tried m_settled m_found m_isCovered m_covered m_toldMany m_there m_now m_kinds m_targets m_predicates m_numbers m_puts m_codes m_weights m_sets m_picks x35 m_steps m_told)) (ws' := (wX m_a m_there_a m_now_a m_kinds_a m_targets_a m_predicates_a m_numbers_a m_puts_a m_codes_a m_weights_a m_sets_a m_picks_a m_classes_a m_steps_a m_told_a cI cZ cB cC m_rules m_changes m_mostTries m_tried m_settled m_found m_isCovered m_covered m_toldMany m_there m_now m_kinds m_targets m_predicates m_numbers m_puts m_codes m_weights m_sets m_picks x35 m_steps m_told)) (va_runV (As := [.int i7l24, .int x2]) (rest := []) ⟨hx, hb, hml, hown, hts⟩ (kK5_isOfNow l D cI cZ cB cC H.size m_a m_there_a m_now_a m_kinds_a m_targets_a m_predicates_a m_numbers_a m_puts_a m_codes_a m_weights_a m_sets_a m_picks_a m_classes_a m_steps_a m_told_a m_rules m_changes m_mostTries m_tried m_settled m_found m_isCovered m_covered m_toldMany m_there m_now m_kinds m_targets m_predicates m_numbers m_puts m_codes m_weights m_sets m_picks m_classesl24 m_steps m_told i7l24 x2 x34 x35 ec36) (cwV 2 hts (gdV wdt4_53 wdt4_55 wds1_15 wdt1_10 gkK5_isOfNow) rfl rfl rfl (by decide +kernel) ⟨Nat.le_of_ble_eq_true rfl, Nat.le_of_ble_eq_true rfl⟩) ⟨Pr_blind, va_recv hK hPc (ci := 5) (q0 := 0) rfl rfl, fun U hU hW => ⟨rfl, Pr_at hK hN hPc hDc hU hW⟩⟩ rfl rfl hl.1 rfl (lv_room (Nat.le_of_ble_eq_true rfl)) dK5_holds_85 ⟨Nat.le_of_ble_eq_true rfl, Nat.le_of_ble_eq_true rfl⟩) hP hD hS hA [0, 1, 2, 3, 4, 5, 6, 7, 8, 9, 10, 11, 12, 13, 14] [] [0, 1, 2, 3, 4, 5, 6, 7, 8, 9, 10, 11, 12, 13, 14] rfl rfl (by decide) (by decide) (by decide) rfl (fun H locs hP hD hS => ?_)
                refine lv_if_eq (tgt := 95) hx hb dK5_holds_88 (by decide) (fun hc => ?_) (fun hc => ?_)
                · replace hm := ift hm hc
                  refine lv_iconst (v := 0) hx hb dK5_holds_95 (by decide) ?_
                  refine lv_istore (lv' := [(6, .int 0), (5, .int x9), (0, .ref m_a), (1, .int v1), (2, .int v2), (3, .int x1), (4, .int x2), (7, .int i7l24), (8, .int x8)]) hx hb dK5_holds_96 hl (by decide) rfl (fun ls hl => ?_)
                  refine lv_goto (tgt := 224) hx hb dK5_holds_98 (by decide) ?_
                  obtain ⟨x37, ex37, hm⟩ := bd1_s hm
                  refine lv_iinc (v := x37) (lv' := [(7, .int x37), (6, .int 0), (5, .int x9), (0, .ref m_a), (1, .int v1), (2, .int v2), (3, .int x1), (4, .int x2), (8, .int x8)]) hx hb dK5_holds_224 hl (k := 7) rfl (by rw [← Option.some.inj ex37]; rfl) (by decide) rfl (fun ls hl => ?_)
                  refine lv_goto (tgt := 24) hx hb dK5_holds_227 (by decide) ?_
                  exact ih24 x9 0 x37 x35 _ _ _ hm hP hD hS (lv_sub hl [0, 1, 2, 7, 6, 3, 4, 5] rfl)
                · replace hm := iff_ hm hc
                  refine lv_iconst (v := 1) hx hb dK5_holds_91 (by decide) ?_
                  refine lv_goto (tgt := 96) hx hb dK5_holds_92 (by decide) ?_
                  refine lv_istore (lv' := [(6, .int 1), (5, .int x9), (0, .ref m_a), (1, .int v1), (2, .int v2), (3, .int x1), (4, .int x2), (7, .int i7l24), (8, .int x8)]) hx hb dK5_holds_96 hl (by decide) rfl (fun ls hl => ?_)
                  refine lv_goto (tgt := 224) hx hb dK5_holds_98 (by decide) ?_
                  obtain ⟨x38, ex38, hm⟩ := bd1_s hm
                  refine lv_iinc (v := x38) (lv' := [(7, .int x38), (6, .int 1), (5, .int x9), (0, .ref m_a), (1, .int v1), (2, .int v2), (3, .int x1), (4, .int x2), (8, .int x8)]) hx hb dK5_holds_224 hl (k := 7) rfl (by rw [← Option.some.inj ex38]; rfl) (by decide) rfl (fun ls hl => ?_)
                  refine lv_goto (tgt := 24) hx hb dK5_holds_227 (by decide) ?_
                  exact ih24 x9 1 x38 x35 _ _ _ hm hP hD hS (lv_sub hl [0, 1, 2, 7, 6, 3, 4, 5] rfl)
        refine lv_if_eq (tgt := 56) hx hb dK5_holds_49 (by decide) (fun hc => ?_) (fun hc => ?_)
        · replace hm := ift hm hc
          refine lv_iconst (v := 0) hx hb dK5_holds_56 (by decide) ?_
          exact jn57 0 _ _ _ hm hP hD hS (lv_sub hl [6, 7, 8, 5, 4, 2, 1, 0] rfl)
        · replace hm := iff_ hm hc
          refine lv_iconst (v := 1) hx hb dK5_holds_52 (by decide) ?_
          refine lv_goto (tgt := 57) hx hb dK5_holds_53 (by decide) ?_
          exact jn57 1 _ _ _ hm hP hD hS (lv_sub hl [6, 7, 8, 5, 4, 2, 1, 0] rfl)
  exact lp24 5000 0 1 0 m_classes _ _ _ hm hP hD hS (lv_sub hl [0, 1, 2, 3, 4, 5, 6, 7] rfl)
def mK5_isResult (m_now : Nat → Int32) (m_kinds : Nat → Int32) (m_targets : Nat → Int32) (m_predicates : Nat → Int32) (m_numbers : Nat → Int32) (m_classes : Nat → Int32) (v1 : Int32) (v2 : Int32) : Option (Int32 × (Nat → Int32)) :=
  bd1 (rd m_targets 10 v1) fun x1 => bd2 (mK5_isOfNow m_now m_classes v2 x1) fun x2 x3 => if x2 = 0 then
  (some (0, x3))
  else
  (bd2 (mK5_holds m_now m_kinds m_predicates m_numbers x3 v1 v2) fun x5 x6 => if x5 = 0 then
    (some (1, x6))
    else
    (some (0, x6)))
abbrev rmK5_isResult : Room := { frames := 3, cells := 0, slots := 0, locals := 75 }
set_option maxHeartbeats 4000000 in
set_option maxRecDepth 100000 in
theorem kK5_isResult (l : Launch) (D : va_G) (cI cZ cB cC : ClassId) (sz : Nat) (m_a : Nat) (m_there_a : Nat) (m_now_a : Nat) (m_kinds_a : Nat) (m_targets_a : Nat) (m_predicates_a : Nat) (m_numbers_a : Nat) (m_puts_a : Nat) (m_codes_a : Nat) (m_weights_a : Nat) (m_sets_a : Nat) (m_picks_a : Nat) (m_classes_a : Nat) (m_steps_a : Nat) (m_told_a : Nat) (m_rules : Int32) (m_changes : Int32) (m_mostTries : Int32) (m_tried : Int32) (m_settled : Int32) (m_found : Int32) (m_isCovered : Int32) (m_covered : Int32) (m_toldMany : Int32) (m_there : Nat → Int32) (m_now : Nat → Int32) (m_kinds : Nat → Int32) (m_targets : Nat → Int32) (m_predicates : Nat → Int32) (m_numbers : Nat → Int32) (m_puts : Nat → Int32) (m_codes : Nat → Int32) (m_weights : Nat → Int32) (m_sets : Nat → Int32) (m_picks : Nat → Int32) (m_classes : Nat → Int32) (m_steps : Nat → Int32) (m_told : Nat → Int32) (v1 : Int32) (v2 : Int32) (r0 : Int32) (m_classes_r : Nat → Int32) (hm : mK5_isResult m_now m_kinds m_targets m_predicates m_numbers m_classes v1 v2 = some (r0, m_classes_r)) : Met l yK5_isResult wsK5_isResult rmK5_isResult (va_Pc [.ref m_a, .int v1, .int v2] (Pr D (tyL cI cZ cB cC) sz (wX m_a m_there_a m_now_a m_kinds_a m_targets_a m_predicates_a m_numbers_a m_puts_a m_codes_a m_weights_a m_sets_a m_picks_a m_classes_a m_steps_a m_told_a cI cZ cB cC m_rules m_changes m_mostTries m_tried m_settled m_found m_isCovered m_covered m_toldMany m_there m_now m_kinds m_targets m_predicates m_numbers m_puts m_codes m_weights m_sets m_picks m_classes m_steps m_told))) (QI D (va_A (wX m_a m_there_a m_now_a m_kinds_a m_targets_a m_predicates_a m_numbers_a m_puts_a m_codes_a m_weights_a m_sets_a m_picks_a m_classes_a m_steps_a m_told_a cI cZ cB cC m_rules m_changes m_mostTries m_tried m_settled m_found m_isCovered m_covered m_toldMany m_there m_now m_kinds m_targets m_predicates m_numbers m_puts m_codes m_weights m_sets m_picks m_classes m_steps m_told) sz) r0 (wX m_a m_there_a m_now_a m_kinds_a m_targets_a m_predicates_a m_numbers_a m_puts_a m_codes_a m_weights_a m_sets_a m_picks_a m_classes_a m_steps_a m_told_a cI cZ cB cC m_rules m_changes m_mostTries m_tried m_settled m_found m_isCovered m_covered m_toldMany m_there m_now m_kinds m_targets m_predicates m_numbers m_puts m_codes m_weights m_sets m_picks m_classes_r m_steps m_told)) 0 0 (va_A (wX m_a m_there_a m_now_a m_kinds_a m_targets_a m_predicates_a m_numbers_a m_puts_a m_codes_a m_weights_a m_sets_a m_picks_a m_classes_a m_steps_a m_told_a cI cZ cB cC m_rules m_changes m_mostTries m_tried m_settled m_found m_isCovered m_covered m_toldMany m_there m_now m_kinds m_targets m_predicates m_numbers m_puts m_codes m_weights m_sets m_picks m_classes m_steps m_told) sz) := by
  refine Met.ofW (cc := cK5_isResult) (maxL := 3) (ret := (some .boolean)) (by decide) rfl ?_
  intro p e s m args below meth c s₁ B hml hv
  obtain ⟨rfl, hsz, hP, hK, hD0, hN⟩ := hv
  have hx := B.exec
  have hb := B.bytes
  have hr := B.returns
  have hts := htsA (atoms_spec (ws := wsK5_isResult) B.pre)
  have hown : s.vm.findClass RK5 = some m.cls := findClass_of_methodNamed B.named
  have hlocks := B.notSynchronized
  subst hsz
  have hD := hD0.self (sz := s.heap.size)
  generalize hAe : va_A (wX m_a m_there_a m_now_a m_kinds_a m_targets_a m_predicates_a m_numbers_a m_puts_a m_codes_a m_weights_a m_sets_a m_picks_a m_classes_a m_steps_a m_told_a cI cZ cB cC m_rules m_changes m_mostTries m_tried m_settled m_found m_isCovered m_covered m_toldMany m_there m_now m_kinds m_targets m_predicates m_numbers m_puts m_codes m_weights m_sets m_picks m_classes m_steps m_told) s.heap.size = A at hD ⊢
  have hA : ∀ q : Nat, s.heap.size ≤ q → A q := fun q h => by rw [← hAe]; exact Or.inr h
  refine kstart (A := A) hP (fun H hP hS => ?_)
  have hl := lv_entry ([.ref m_a, .int v1, .int v2]) (n := 3) (Nat.le_of_ble_eq_true rfl)
  rw [lg_entry_eq]
  generalize (lg_sl ([.ref m_a, .int v1, .int v2]) ++ List.replicate (3 - (lg_sl ([.ref m_a, .int v1, .int v2])).length) Slot.unset).toArray = ls at hl ⊢
  have hl : lv_has ls 3 [(0, .ref m_a), (1, .int v1), (2, .int v2)] := hl
  unfold mK5_isResult at hm
  refine lv_aload_n hx hb dK5_isResult_0 rfl (lv_at hl 0 rfl) ?_
  refine lv_iload_n hx hb dK5_isResult_1 rfl (lv_at hl 2 rfl) ?_
  refine lv_aload_n hx hb dK5_isResult_2 rfl (lv_at hl 0 rfl) ?_
  refine va_get (D := D) (ci := 5) (v := .ref m_targets_a) (C := RK5) (T := TK5) (N := 23) hx hb hts inK5 hown hK hP 0 rfl rfl 4 (by decide) (hts _ wdt3_190) (fun _ h9 => h9) rfl dK5_isResult_3 ?_
  refine lv_iload_n hx hb dK5_isResult_6 rfl (lv_at hl 1 rfl) ?_
  obtain ⟨x1, ex1, hm⟩ := bd1_s hm
  obtain ⟨hix1, ex1⟩ := rd_s ex1
  refine va_iald hx hb hK hP 4 0 rfl rfl hix1 dK5_isResult_7 ?_
  refine topi ex1 ?_
  obtain ⟨x2, x3, ec4, hm⟩ := bd2_s hm
  have hPc := hP.sub (ws' := (wX m_a m_there_a m_now_a m_kinds_a m_targets_a m_predicates_a m_numbers_a m_puts_a m_codes_a m_weights_a m_sets_a m_picks_a m_classes_a m_steps_a m_told_a cI cZ cB cC m_rules m_changes m_mostTries m_tried m_settled m_found m_isCovered m_covered m_toldMany m_there m_now m_kinds m_targets m_predicates m_numbers m_puts m_codes m_weights m_sets m_picks m_classes m_steps m_told)) [0, 1, 2, 3, 4, 5, 6, 7, 8, 9, 10, 11, 12, 13, 14] rfl
  have hDc := hD.sub (ws' := (wX m_a m_there_a m_now_a m_kinds_a m_targets_a m_predicates_a m_numbers_a m_puts_a m_codes_a m_weights_a m_sets_a m_picks_a m_classes_a m_steps_a m_told_a cI cZ cB cC m_rules m_changes m_mostTries m_tried m_settled m_found m_isCovered m_covered m_toldMany m_there m_now m_kinds m_targets m_predicates m_numbers m_puts m_codes m_weights m_sets m_picks m_classes m_steps m_told)) [0, 1, 2, 3, 4, 5, 6, 7, 8, 9, 10, 11, 12, 13, 14] (by decide) rfl
  refine k_calli (wr := []) (w1 := (wX m_a m_there_a m_now_a m_kinds_a m_targets_a m_predicates_a m_numbers_a m_puts_a m_codes_a m_weights_a m_sets_a m_picks_a m_classes_a m_steps_a m_told_a cI cZ cB cC m_rules m_changes m_mostTries m_tried m_settled m_found m_isCovered m_covered m_toldMany m_there m_now m_kinds m_targets m_predicates m_numbers m_puts m_codes m_weights m_sets m_picks x3 m_steps m_told)) (ws' := (wX m_a m_there_a m_now_a m_kinds_a m_targets_a m_predicates_a m_numbers_a m_puts_a m_codes_a m_weights_a m_sets_a m_picks_a m_classes_a m_steps_a m_told_a cI cZ cB cC m_rules m_changes m_mostTries m_tried m_settled m_found m_isCovered m_covered m_toldMany m_there m_now m_kinds m_targets m_predicates m_numbers m_puts m_codes m_weights m_sets m_picks x3 m_steps m_told)) (va_runV (As := [.int v2, .int x1]) (rest := []) ⟨hx, hb, hml, hown, hts⟩ (kK5_isOfNow l D cI cZ cB cC H.size m_a m_there_a m_now_a m_kinds_a m_targets_a m_predicates_a m_numbers_a m_puts_a m_codes_a m_weights_a m_sets_a m_picks_a m_classes_a m_steps_a m_told_a m_rules m_changes m_mostTries m_tried m_settled m_found m_isCovered m_covered m_toldMany m_there m_now m_kinds m_targets m_predicates m_numbers m_puts m_codes m_weights m_sets m_picks m_classes m_steps m_told v2 x1 x2 x3 ec4) (cwV 2 hts (gdV wdt4_53 wdt4_55 wds1_15 wdt1_10 gkK5_isOfNow) rfl rfl rfl (by decide +kernel) ⟨Nat.le_of_ble_eq_true rfl, Nat.le_of_ble_eq_true rfl⟩) ⟨Pr_blind, va_recv hK hPc (ci := 5) (q0 := 0) rfl rfl, fun U hU hW => ⟨rfl, Pr_at hK hN hPc hDc hU hW⟩⟩ rfl rfl hl.1 rfl (lv_room (Nat.le_of_ble_eq_true rfl)) dK5_isResult_8 ⟨Nat.le_of_ble_eq_true rfl, Nat.le_of_ble_eq_true rfl⟩) hP hD hS hA [0, 1, 2, 3, 4, 5, 6, 7, 8, 9, 10, 11, 12, 13, 14] [] [0, 1, 2, 3, 4, 5, 6, 7, 8, 9, 10, 11, 12, 13, 14] rfl rfl (by decide) (by decide) (by decide) rfl (fun H locs hP hD hS => ?_)
  refine lv_if_eq (tgt := 27) hx hb dK5_isResult_11 (by decide) (fun hc => ?_) (fun hc => ?_)
  · replace hm := ift hm hc
    refine lv_iconst (v := 0) hx hb dK5_isResult_27 (by decide) ?_
    replace hm := Option.some.inj hm
    simp only [Prod.mk.injEq] at hm
    obtain ⟨rfl, rfl⟩ := hm
    exact k_retz hx hb hr hlocks rfl hP hD hS dK5_isResult_28
  · replace hm := iff_ hm hc
    refine lv_aload_n hx hb dK5_isResult_14 rfl (lv_at hl 0 rfl) ?_
    refine lv_iload_n hx hb dK5_isResult_15 rfl (lv_at hl 1 rfl) ?_
    refine lv_iload_n hx hb dK5_isResult_16 rfl (lv_at hl 2 rfl) ?_
    obtain ⟨x5, x6, ec7, hm⟩ := bd2_s hm
    have hPc := hP.sub (ws' := (wX m_a m_there_a m_now_a m_kinds_a m_targets_a m_predicates_a m_numbers_a m_puts_a m_codes_a m_weights_a m_sets_a m_picks_a m_classes_a m_steps_a m_told_a cI cZ cB cC m_rules m_changes m_mostTries m_tried m_settled m_found m_isCovered m_covered m_toldMany m_there m_now m_kinds m_targets m_predicates m_numbers m_puts m_codes m_weights m_sets m_picks x3 m_steps m_told)) [0, 1, 2, 3, 4, 5, 6, 7, 8, 9, 10, 11, 12, 13, 14] rfl
    have hDc := hD.sub (ws' := (wX m_a m_there_a m_now_a m_kinds_a m_targets_a m_predicates_a m_numbers_a m_puts_a m_codes_a m_weights_a m_sets_a m_picks_a m_classes_a m_steps_a m_told_a cI cZ cB cC m_rules m_changes m_mostTries m_tried m_settled m_found m_isCovered m_covered m_toldMany m_there m_now m_kinds m_targets m_predicates m_numbers m_puts m_codes m_weights m_sets m_picks x3 m_steps m_told)) [0, 1, 2, 3, 4, 5, 6, 7, 8, 9, 10, 11, 12, 13, 14] (by decide) rfl
    refine k_calli (wr := []) (w1 := (wX m_a m_there_a m_now_a m_kinds_a m_targets_a m_predicates_a m_numbers_a m_puts_a m_codes_a m_weights_a m_sets_a m_picks_a m_classes_a m_steps_a m_told_a cI cZ cB cC m_rules m_changes m_mostTries m_tried m_settled m_found m_isCovered m_covered m_toldMany m_there m_now m_kinds m_targets m_predicates m_numbers m_puts m_codes m_weights m_sets m_picks x6 m_steps m_told)) (ws' := (wX m_a m_there_a m_now_a m_kinds_a m_targets_a m_predicates_a m_numbers_a m_puts_a m_codes_a m_weights_a m_sets_a m_picks_a m_classes_a m_steps_a m_told_a cI cZ cB cC m_rules m_changes m_mostTries m_tried m_settled m_found m_isCovered m_covered m_toldMany m_there m_now m_kinds m_targets m_predicates m_numbers m_puts m_codes m_weights m_sets m_picks x6 m_steps m_told)) (va_runV (As := [.int v1, .int v2]) (rest := []) ⟨hx, hb, hml, hown, hts⟩ (kK5_holds l D cI cZ cB cC H.size m_a m_there_a m_now_a m_kinds_a m_targets_a m_predicates_a m_numbers_a m_puts_a m_codes_a m_weights_a m_sets_a m_picks_a m_classes_a m_steps_a m_told_a m_rules m_changes m_mostTries m_tried m_settled m_found m_isCovered m_covered m_toldMany m_there m_now m_kinds m_targets m_predicates m_numbers m_puts m_codes m_weights m_sets m_picks x3 m_steps m_told v1 v2 x5 x6 ec7) (cwV 2 hts (gdV wdt4_57 wdt4_59 wds2_0 wdt1_10 gkK5_holds) rfl rfl rfl (by decide +kernel) ⟨Nat.le_of_ble_eq_true rfl, Nat.le_of_ble_eq_true rfl⟩) ⟨Pr_blind, va_recv hK hPc (ci := 5) (q0 := 0) rfl rfl, fun U hU hW => ⟨rfl, Pr_at hK hN hPc hDc hU hW⟩⟩ rfl rfl hl.1 rfl (lv_room (Nat.le_of_ble_eq_true rfl)) dK5_isResult_17 ⟨Nat.le_of_ble_eq_true rfl, Nat.le_of_ble_eq_true rfl⟩) hP hD hS hA [0, 1, 2, 3, 4, 5, 6, 7, 8, 9, 10, 11, 12, 13, 14] [] [0, 1, 2, 3, 4, 5, 6, 7, 8, 9, 10, 11, 12, 13, 14] rfl rfl (by decide) (by decide) (by decide) rfl (fun H locs hP hD hS => ?_)
    refine lv_if_ne (tgt := 27) hx hb dK5_isResult_20 (by decide) (fun hc => ?_) (fun hc => ?_)
    · replace hm := iff_ hm hc
      refine lv_iconst (v := 0) hx hb dK5_isResult_27 (by decide) ?_
      replace hm := Option.some.inj hm
      simp only [Prod.mk.injEq] at hm
      obtain ⟨rfl, rfl⟩ := hm
      exact k_retz hx hb hr hlocks rfl hP hD hS dK5_isResult_28
    · replace hm := ift hm hc
      refine lv_iconst (v := 1) hx hb dK5_isResult_23 (by decide) ?_
      refine lv_goto (tgt := 28) hx hb dK5_isResult_24 (by decide) ?_
      replace hm := Option.some.inj hm
      simp only [Prod.mk.injEq] at hm
      obtain ⟨rfl, rfl⟩ := hm
      exact k_retz hx hb hr hlocks rfl hP hD hS dK5_isResult_28
def mK5_resultsNow_A4 (i1x4 : Int32) (m_classesx4 : Nat → Int32) : Option (Int32 × (Nat → Int32)) :=
  some (i1x4, m_classesx4)
def mK5_resultsNow_A14 (i2l4 : Int32) (rc4 : Int32 → Int32 → (Nat → Int32) → (Option (Int32 × (Nat → Int32)))) (i1x14 : Int32) (m_classesx14 : Nat → Int32) : Option (Int32 × (Nat → Int32)) :=
  bd1 (some (i2l4 + 1)) fun x1 => rc4 i1x14 x1 m_classesx14
def mK5_resultsNow_B14 (m_now : Nat → Int32) (m_kinds : Nat → Int32) (m_targets : Nat → Int32) (m_predicates : Nat → Int32) (m_numbers : Nat → Int32) (i2l4 : Int32) (kx14 : Int32 → (Nat → Int32) → (Option (Int32 × (Nat → Int32)))) (rc14 : Int32 → Int32 → (Nat → Int32) → (Option (Int32 × (Nat → Int32)))) (i1l14 : Int32) (i3l14 : Int32) (m_classesl14 : Nat → Int32) : Option (Int32 × (Nat → Int32)) :=
  if 12 ≤ i3l14 then
  (kx14 i1l14 m_classesl14)
  else
  (bd2 (mK5_isResult m_now m_kinds m_targets m_predicates m_numbers m_classesl14 i2l4 i3l14) fun x2 x3 => if x2 = 0 then
    (bd1 (some (i1l14 + 0)) fun x5 => bd1 (some (i3l14 + 1)) fun x6 => rc14 x5 x6 x3)
    else
    (bd1 (some (i1l14 + 1)) fun x7 => bd1 (some (i3l14 + 1)) fun x8 => rc14 x7 x8 x3))
def mK5_resultsNow_L14 (m_now : Nat → Int32) (m_kinds : Nat → Int32) (m_targets : Nat → Int32) (m_predicates : Nat → Int32) (m_numbers : Nat → Int32) (i2l4 : Int32) (kx14 : Int32 → (Nat → Int32) → (Option (Int32 × (Nat → Int32)))) : Nat → Int32 → Int32 → (Nat → Int32) → (Option (Int32 × (Nat → Int32)))
  | 0, _, _, _ => none
  | n + 1, i1l14, i3l14, m_classesl14 => mK5_resultsNow_B14 m_now m_kinds m_targets m_predicates m_numbers i2l4 kx14 (mK5_resultsNow_L14 m_now m_kinds m_targets m_predicates m_numbers i2l4 kx14 n) i1l14 i3l14 m_classesl14
def mK5_resultsNow_B4 (m_rules : Int32) (m_now : Nat → Int32) (m_kinds : Nat → Int32) (m_targets : Nat → Int32) (m_predicates : Nat → Int32) (m_numbers : Nat → Int32) (kx4 : Int32 → (Nat → Int32) → (Option (Int32 × (Nat → Int32)))) (rc4 : Int32 → Int32 → (Nat → Int32) → (Option (Int32 × (Nat → Int32)))) (i1l4 : Int32) (i2l4 : Int32) (m_classesl4 : Nat → Int32) : Option (Int32 × (Nat → Int32)) :=
  if m_rules ≤ i2l4 then
  (kx4 i1l4 m_classesl4)
  else
  (mK5_resultsNow_L14 m_now m_kinds m_targets m_predicates m_numbers i2l4 (mK5_resultsNow_A14 i2l4 rc4) 5000 i1l4 0 m_classesl4)
def mK5_resultsNow_L4 (m_rules : Int32) (m_now : Nat → Int32) (m_kinds : Nat → Int32) (m_targets : Nat → Int32) (m_predicates : Nat → Int32) (m_numbers : Nat → Int32) (kx4 : Int32 → (Nat → Int32) → (Option (Int32 × (Nat → Int32)))) : Nat → Int32 → Int32 → (Nat → Int32) → (Option (Int32 × (Nat → Int32)))
  | 0, _, _, _ => none
  | n + 1, i1l4, i2l4, m_classesl4 => mK5_resultsNow_B4 m_rules m_now m_kinds m_targets m_predicates m_numbers kx4 (mK5_resultsNow_L4 m_rules m_now m_kinds m_targets m_predicates m_numbers kx4 n) i1l4 i2l4 m_classesl4
def mK5_resultsNow (m_rules : Int32) (m_now : Nat → Int32) (m_kinds : Nat → Int32) (m_targets : Nat → Int32) (m_predicates : Nat → Int32) (m_numbers : Nat → Int32) (m_classes : Nat → Int32) : Option (Int32 × (Nat → Int32)) :=
  mK5_resultsNow_L4 m_rules m_now m_kinds m_targets m_predicates m_numbers (mK5_resultsNow_A4) 5000 0 0 m_classes
abbrev rmK5_resultsNow : Room := { frames := 4, cells := 0, slots := 0, locals := 97 }
set_option maxHeartbeats 4000000 in
set_option maxRecDepth 100000 in
theorem kK5_resultsNow (l : Launch) (D : va_G) (cI cZ cB cC : ClassId) (sz : Nat) (m_a : Nat) (m_there_a : Nat) (m_now_a : Nat) (m_kinds_a : Nat) (m_targets_a : Nat) (m_predicates_a : Nat) (m_numbers_a : Nat) (m_puts_a : Nat) (m_codes_a : Nat) (m_weights_a : Nat) (m_sets_a : Nat) (m_picks_a : Nat) (m_classes_a : Nat) (m_steps_a : Nat) (m_told_a : Nat) (m_rules : Int32) (m_changes : Int32) (m_mostTries : Int32) (m_tried : Int32) (m_settled : Int32) (m_found : Int32) (m_isCovered : Int32) (m_covered : Int32) (m_toldMany : Int32) (m_there : Nat → Int32) (m_now : Nat → Int32) (m_kinds : Nat → Int32) (m_targets : Nat → Int32) (m_predicates : Nat → Int32) (m_numbers : Nat → Int32) (m_puts : Nat → Int32) (m_codes : Nat → Int32) (m_weights : Nat → Int32) (m_sets : Nat → Int32) (m_picks : Nat → Int32) (m_classes : Nat → Int32) (m_steps : Nat → Int32) (m_told : Nat → Int32) (r0 : Int32) (m_classes_r : Nat → Int32) (hm : mK5_resultsNow m_rules m_now m_kinds m_targets m_predicates m_numbers m_classes = some (r0, m_classes_r)) : Met l yK5_resultsNow wsK5_resultsNow rmK5_resultsNow (va_Pc [.ref m_a] (Pr D (tyL cI cZ cB cC) sz (wX m_a m_there_a m_now_a m_kinds_a m_targets_a m_predicates_a m_numbers_a m_puts_a m_codes_a m_weights_a m_sets_a m_picks_a m_classes_a m_steps_a m_told_a cI cZ cB cC m_rules m_changes m_mostTries m_tried m_settled m_found m_isCovered m_covered m_toldMany m_there m_now m_kinds m_targets m_predicates m_numbers m_puts m_codes m_weights m_sets m_picks m_classes m_steps m_told))) (QI D (va_A (wX m_a m_there_a m_now_a m_kinds_a m_targets_a m_predicates_a m_numbers_a m_puts_a m_codes_a m_weights_a m_sets_a m_picks_a m_classes_a m_steps_a m_told_a cI cZ cB cC m_rules m_changes m_mostTries m_tried m_settled m_found m_isCovered m_covered m_toldMany m_there m_now m_kinds m_targets m_predicates m_numbers m_puts m_codes m_weights m_sets m_picks m_classes m_steps m_told) sz) r0 (wX m_a m_there_a m_now_a m_kinds_a m_targets_a m_predicates_a m_numbers_a m_puts_a m_codes_a m_weights_a m_sets_a m_picks_a m_classes_a m_steps_a m_told_a cI cZ cB cC m_rules m_changes m_mostTries m_tried m_settled m_found m_isCovered m_covered m_toldMany m_there m_now m_kinds m_targets m_predicates m_numbers m_puts m_codes m_weights m_sets m_picks m_classes_r m_steps m_told)) 0 0 (va_A (wX m_a m_there_a m_now_a m_kinds_a m_targets_a m_predicates_a m_numbers_a m_puts_a m_codes_a m_weights_a m_sets_a m_picks_a m_classes_a m_steps_a m_told_a cI cZ cB cC m_rules m_changes m_mostTries m_tried m_settled m_found m_isCovered m_covered m_toldMany m_there m_now m_kinds m_targets m_predicates m_numbers m_puts m_codes m_weights m_sets m_picks m_classes m_steps m_told) sz) := by
  refine Met.ofW (cc := cK5_resultsNow) (maxL := 4) (ret := (some .int)) (by decide) rfl ?_
  intro p e s m args below meth c s₁ B hml hv
  obtain ⟨rfl, hsz, hP, hK, hD0, hN⟩ := hv
  have hx := B.exec
  have hb := B.bytes
  have hr := B.returns
  have hts := htsA (atoms_spec (ws := wsK5_resultsNow) B.pre)
  have hown : s.vm.findClass RK5 = some m.cls := findClass_of_methodNamed B.named
  have hlocks := B.notSynchronized
  subst hsz
  have hD := hD0.self (sz := s.heap.size)
  generalize hAe : va_A (wX m_a m_there_a m_now_a m_kinds_a m_targets_a m_predicates_a m_numbers_a m_puts_a m_codes_a m_weights_a m_sets_a m_picks_a m_classes_a m_steps_a m_told_a cI cZ cB cC m_rules m_changes m_mostTries m_tried m_settled m_found m_isCovered m_covered m_toldMany m_there m_now m_kinds m_targets m_predicates m_numbers m_puts m_codes m_weights m_sets m_picks m_classes m_steps m_told) s.heap.size = A at hD ⊢
  have hA : ∀ q : Nat, s.heap.size ≤ q → A q := fun q h => by rw [← hAe]; exact Or.inr h
  refine kstart (A := A) hP (fun H hP hS => ?_)
  have hl := lv_entry ([.ref m_a]) (n := 4) (Nat.le_of_ble_eq_true rfl)
  rw [lg_entry_eq]
  generalize (lg_sl ([.ref m_a]) ++ List.replicate (4 - (lg_sl ([.ref m_a])).length) Slot.unset).toArray = ls at hl ⊢
  have hl : lv_has ls 4 [(0, .ref m_a)] := hl
  unfold mK5_resultsNow at hm
  refine lv_iconst (v := 0) hx hb dK5_resultsNow_0 (by decide) ?_
  refine lv_istore_n (lv' := [(1, .int 0), (0, .ref m_a)]) hx hb dK5_resultsNow_1 rfl hl (by decide) rfl (fun ls hl => ?_)
  refine lv_iconst (v := 0) hx hb dK5_resultsNow_2 (by decide) ?_
  refine lv_istore_n (lv' := [(2, .int 0), (1, .int 0), (0, .ref m_a)]) hx hb dK5_resultsNow_3 rfl hl (by decide) rfl (fun ls hl => ?_)
  have lx4 : ∀ (i1x4 : Int32) (m_classesx4 : Nat → Int32) (H : Heap) (locs : List Loc) (ls : Array Slot), mK5_resultsNow_A4 i1x4 m_classesx4 = some (r0, m_classes_r) → va_P D vwCl (wX m_a m_there_a m_now_a m_kinds_a m_targets_a m_predicates_a m_numbers_a m_puts_a m_codes_a m_weights_a m_sets_a m_picks_a m_classes_a m_steps_a m_told_a cI cZ cB cC m_rules m_changes m_mostTries m_tried m_settled m_found m_isCovered m_covered m_toldMany m_there m_now m_kinds m_targets m_predicates m_numbers m_puts m_codes m_weights m_sets m_picks m_classesx4 m_steps m_told) H → va_D A (wX m_a m_there_a m_now_a m_kinds_a m_targets_a m_predicates_a m_numbers_a m_puts_a m_codes_a m_weights_a m_sets_a m_picks_a m_classes_a m_steps_a m_told_a cI cZ cB cC m_rules m_changes m_mostTries m_tried m_settled m_found m_isCovered m_covered m_toldMany m_there m_now m_kinds m_targets m_predicates m_numbers m_puts m_codes m_weights m_sets m_picks m_classesx4 m_steps m_told) → va_S A s.heap H locs → lv_has ls 4 [(1, .int i1x4)] → W p l e (headSpec wsK5_resultsNow rmK5_resultsNow).room s m ([.ref m_a] : List Value).toArray below meth c H locs 0 0 (MQ below (QI D A r0 (wX m_a m_there_a m_now_a m_kinds_a m_targets_a m_predicates_a m_numbers_a m_puts_a m_codes_a m_weights_a m_sets_a m_picks_a m_classes_a m_steps_a m_told_a cI cZ cB cC m_rules m_changes m_mostTries m_tried m_settled m_found m_isCovered m_covered m_toldMany m_there m_now m_kinds m_targets m_predicates m_numbers m_puts m_codes m_weights m_sets m_picks m_classes_r m_steps m_told)) ([.ref m_a] : List Value).toArray s 0 0 A) (F0 m 49 ls []) := by
    intro i1x4 m_classesx4 H locs ls hm hP hD hS hl
    unfold mK5_resultsNow_A4 at hm
    refine lv_iload_n hx hb dK5_resultsNow_49 rfl (lv_at hl 0 rfl) ?_
    replace hm := Option.some.inj hm
    simp only [Prod.mk.injEq] at hm
    obtain ⟨rfl, rfl⟩ := hm
    exact k_reti hx hb hr hlocks hP hD hS dK5_resultsNow_50
  have lp4 : ∀ (n4 : Nat) (i1l4 : Int32) (i2l4 : Int32) (m_classesl4 : Nat → Int32) (H : Heap) (locs : List Loc) (ls : Array Slot), mK5_resultsNow_L4 m_rules m_now m_kinds m_targets m_predicates m_numbers (mK5_resultsNow_A4) n4 i1l4 i2l4 m_classesl4 = some (r0, m_classes_r) → va_P D vwCl (wX m_a m_there_a m_now_a m_kinds_a m_targets_a m_predicates_a m_numbers_a m_puts_a m_codes_a m_weights_a m_sets_a m_picks_a m_classes_a m_steps_a m_told_a cI cZ cB cC m_rules m_changes m_mostTries m_tried m_settled m_found m_isCovered m_covered m_toldMany m_there m_now m_kinds m_targets m_predicates m_numbers m_puts m_codes m_weights m_sets m_picks m_classesl4 m_steps m_told) H → va_D A (wX m_a m_there_a m_now_a m_kinds_a m_targets_a m_predicates_a m_numbers_a m_puts_a m_codes_a m_weights_a m_sets_a m_picks_a m_classes_a m_steps_a m_told_a cI cZ cB cC m_rules m_changes m_mostTries m_tried m_settled m_found m_isCovered m_covered m_toldMany m_there m_now m_kinds m_targets m_predicates m_numbers m_puts m_codes m_weights m_sets m_picks m_classesl4 m_steps m_told) → va_S A s.heap H locs → lv_has ls 4 [(2, .int i2l4), (1, .int i1l4), (0, .ref m_a)] → W p l e (headSpec wsK5_resultsNow rmK5_resultsNow).room s m ([.ref m_a] : List Value).toArray below meth c H locs 0 0 (MQ below (QI D A r0 (wX m_a m_there_a m_now_a m_kinds_a m_targets_a m_predicates_a m_numbers_a m_puts_a m_codes_a m_weights_a m_sets_a m_picks_a m_classes_a m_steps_a m_told_a cI cZ cB cC m_rules m_changes m_mostTries m_tried m_settled m_found m_isCovered m_covered m_toldMany m_there m_now m_kinds m_targets m_predicates m_numbers m_puts m_codes m_weights m_sets m_picks m_classes_r m_steps m_told)) ([.ref m_a] : List Value).toArray s 0 0 A) (F0 m 4 ls []) := by
    intro n4
    induction n4 with
    | zero => intro i1l4 i2l4 m_classesl4 H locs ls hm; exact nomatch (show none = _ from hm)
    | succ n4 ih4 =>
      intro i1l4 i2l4 m_classesl4 H locs ls hm hP hD hS hl
      replace hm : mK5_resultsNow_B4 m_rules m_now m_kinds m_targets m_predicates m_numbers (mK5_resultsNow_A4) (mK5_resultsNow_L4 m_rules m_now m_kinds m_targets m_predicates m_numbers (mK5_resultsNow_A4) n4) i1l4 i2l4 m_classesl4 = some (r0, m_classes_r) := hm
      unfold mK5_resultsNow_B4 at hm
      refine lv_iload_n hx hb dK5_resultsNow_4 rfl (lv_at hl 0 rfl) ?_
      refine lv_aload_n hx hb dK5_resultsNow_5 rfl (lv_at hl 2 rfl) ?_
      refine va_get (D := D) (ci := 5) (v := .int m_rules) (C := RK5) (T := TK5) (N := 23) hx hb hts inK5 hown hK hP 0 rfl rfl 2 (by decide) (hts _ wdt3_188) (fun _ h9 => h9) rfl dK5_resultsNow_6 ?_
      refine lv_icmp_ge (tgt := 49) hx hb dK5_resultsNow_9 (by decide) (fun hc => ?_) (fun hc => ?_)
      · replace hm := ift hm hc
        exact lx4 i1l4 m_classesl4 _ _ _ hm hP hD hS (lv_sub hl [1] rfl)
      · replace hm := iff_ hm hc
        refine lv_iconst (v := 0) hx hb dK5_resultsNow_12 (by decide) ?_
        refine lv_istore_n (lv' := [(3, .int 0), (2, .int i2l4), (1, .int i1l4), (0, .ref m_a)]) hx hb dK5_resultsNow_13 rfl hl (by decide) rfl (fun ls hl => ?_)
        have lx14 : ∀ (i1x14 : Int32) (m_classesx14 : Nat → Int32) (H : Heap) (locs : List Loc) (ls : Array Slot), mK5_resultsNow_A14 i2l4 (mK5_resultsNow_L4 m_rules m_now m_kinds m_targets m_predicates m_numbers (mK5_resultsNow_A4) n4) i1x14 m_classesx14 = some (r0, m_classes_r) → va_P D vwCl (wX m_a m_there_a m_now_a m_kinds_a m_targets_a m_predicates_a m_numbers_a m_puts_a m_codes_a m_weights_a m_sets_a m_picks_a m_classes_a m_steps_a m_told_a cI cZ cB cC m_rules m_changes m_mostTries m_tried m_settled m_found m_isCovered m_covered m_toldMany m_there m_now m_kinds m_targets m_predicates m_numbers m_puts m_codes m_weights m_sets m_picks m_classesx14 m_steps m_told) H → va_D A (wX m_a m_there_a m_now_a m_kinds_a m_targets_a m_predicates_a m_numbers_a m_puts_a m_codes_a m_weights_a m_sets_a m_picks_a m_classes_a m_steps_a m_told_a cI cZ cB cC m_rules m_changes m_mostTries m_tried m_settled m_found m_isCovered m_covered m_toldMany m_there m_now m_kinds m_targets m_predicates m_numbers m_puts m_codes m_weights m_sets m_picks m_classesx14 m_steps m_told) → va_S A s.heap H locs → lv_has ls 4 [(0, .ref m_a), (1, .int i1x14), (2, .int i2l4)] → W p l e (headSpec wsK5_resultsNow rmK5_resultsNow).room s m ([.ref m_a] : List Value).toArray below meth c H locs 0 0 (MQ below (QI D A r0 (wX m_a m_there_a m_now_a m_kinds_a m_targets_a m_predicates_a m_numbers_a m_puts_a m_codes_a m_weights_a m_sets_a m_picks_a m_classes_a m_steps_a m_told_a cI cZ cB cC m_rules m_changes m_mostTries m_tried m_settled m_found m_isCovered m_covered m_toldMany m_there m_now m_kinds m_targets m_predicates m_numbers m_puts m_codes m_weights m_sets m_picks m_classes_r m_steps m_told)) ([.ref m_a] : List Value).toArray s 0 0 A) (F0 m 43 ls []) := by
          intro i1x14 m_classesx14 H locs ls hm hP hD hS hl
          unfold mK5_resultsNow_A14 at hm
          obtain ⟨x1, ex1, hm⟩ := bd1_s hm
          refine lv_iinc (v := x1) (lv' := [(2, .int x1), (0, .ref m_a), (1, .int i1x14)]) hx hb dK5_resultsNow_43 hl (k := 2) rfl (by rw [← Option.some.inj ex1]; rfl) (by decide) rfl (fun ls hl => ?_)
          refine lv_goto (tgt := 4) hx hb dK5_resultsNow_46 (by decide) ?_
          exact ih4 i1x14 x1 m_classesx14 _ _ _ hm hP hD hS (lv_sub hl [0, 2, 1] rfl)
        have lp14 : ∀ (n14 : Nat) (i1l14 : Int32) (i3l14 : Int32) (m_classesl14 : Nat → Int32) (H : Heap) (locs : List Loc) (ls : Array Slot), mK5_resultsNow_L14 m_now m_kinds m_targets m_predicates m_numbers i2l4 (mK5_resultsNow_A14 i2l4 (mK5_resultsNow_L4 m_rules m_now m_kinds m_targets m_predicates m_numbers (mK5_resultsNow_A4) n4)) n14 i1l14 i3l14 m_classesl14 = some (r0, m_classes_r) → va_P D vwCl (wX m_a m_there_a m_now_a m_kinds_a m_targets_a m_predicates_a m_numbers_a m_puts_a m_codes_a m_weights_a m_sets_a m_picks_a m_classes_a m_steps_a m_told_a cI cZ cB cC m_rules m_changes m_mostTries m_tried m_settled m_found m_isCovered m_covered m_toldMany m_there m_now m_kinds m_targets m_predicates m_numbers m_puts m_codes m_weights m_sets m_picks m_classesl14 m_steps m_told) H → va_D A (wX m_a m_there_a m_now_a m_kinds_a m_targets_a m_predicates_a m_numbers_a m_puts_a m_codes_a m_weights_a m_sets_a m_picks_a m_classes_a m_steps_a m_told_a cI cZ cB cC m_rules m_changes m_mostTries m_tried m_settled m_found m_isCovered m_covered m_toldMany m_there m_now m_kinds m_targets m_predicates m_numbers m_puts m_codes m_weights m_sets m_picks m_classesl14 m_steps m_told) → va_S A s.heap H locs → lv_has ls 4 [(3, .int i3l14), (2, .int i2l4), (1, .int i1l14), (0, .ref m_a)] → W p l e (headSpec wsK5_resultsNow rmK5_resultsNow).room s m ([.ref m_a] : List Value).toArray below meth c H locs 0 0 (MQ below (QI D A r0 (wX m_a m_there_a m_now_a m_kinds_a m_targets_a m_predicates_a m_numbers_a m_puts_a m_codes_a m_weights_a m_sets_a m_picks_a m_classes_a m_steps_a m_told_a cI cZ cB cC m_rules m_changes m_mostTries m_tried m_settled m_found m_isCovered m_covered m_toldMany m_there m_now m_kinds m_targets m_predicates m_numbers m_puts m_codes m_weights m_sets m_picks m_classes_r m_steps m_told)) ([.ref m_a] : List Value).toArray s 0 0 A) (F0 m 14 ls []) := by
          intro n14
          induction n14 with
          | zero => intro i1l14 i3l14 m_classesl14 H locs ls hm; exact nomatch (show none = _ from hm)
          | succ n14 ih14 =>
            intro i1l14 i3l14 m_classesl14 H locs ls hm hP hD hS hl
            replace hm : mK5_resultsNow_B14 m_now m_kinds m_targets m_predicates m_numbers i2l4 (mK5_resultsNow_A14 i2l4 (mK5_resultsNow_L4 m_rules m_now m_kinds m_targets m_predicates m_numbers (mK5_resultsNow_A4) n4)) (mK5_resultsNow_L14 m_now m_kinds m_targets m_predicates m_numbers i2l4 (mK5_resultsNow_A14 i2l4 (mK5_resultsNow_L4 m_rules m_now m_kinds m_targets m_predicates m_numbers (mK5_resultsNow_A4) n4)) n14) i1l14 i3l14 m_classesl14 = some (r0, m_classes_r) := hm
            unfold mK5_resultsNow_B14 at hm
            refine lv_iload_n hx hb dK5_resultsNow_14 rfl (lv_at hl 0 rfl) ?_
            refine lv_bipush (v := 12) hx hb dK5_resultsNow_15 (by decide) ?_
            refine lv_icmp_ge (tgt := 43) hx hb dK5_resultsNow_17 (by decide) (fun hc => ?_) (fun hc => ?_)
            · replace hm := ift hm hc
              exact lx14 i1l14 m_classesl14 _ _ _ hm hP hD hS (lv_sub hl [3, 2, 1] rfl)
            · replace hm := iff_ hm hc
              refine lv_iload_n hx hb dK5_resultsNow_20 rfl (lv_at hl 2 rfl) ?_
              refine lv_aload_n hx hb dK5_resultsNow_21 rfl (lv_at hl 3 rfl) ?_
              refine lv_iload_n hx hb dK5_resultsNow_22 rfl (lv_at hl 1 rfl) ?_
              refine lv_iload_n hx hb dK5_resultsNow_23 rfl (lv_at hl 0 rfl) ?_
              obtain ⟨x2, x3, ec4, hm⟩ := bd2_s hm
              have hPc := hP.sub (ws' := (wX m_a m_there_a m_now_a m_kinds_a m_targets_a m_predicates_a m_numbers_a m_puts_a m_codes_a m_weights_a m_sets_a m_picks_a m_classes_a m_steps_a m_told_a cI cZ cB cC m_rules m_changes m_mostTries m_tried m_settled m_found m_isCovered m_covered m_toldMany m_there m_now m_kinds m_targets m_predicates m_numbers m_puts m_codes m_weights m_sets m_picks m_classesl14 m_steps m_told)) [0, 1, 2, 3, 4, 5, 6, 7, 8, 9, 10, 11, 12, 13, 14] rfl
              have hDc := hD.sub (ws' := (wX m_a m_there_a m_now_a m_kinds_a m_targets_a m_predicates_a m_numbers_a m_puts_a m_codes_a m_weights_a m_sets_a m_picks_a m_classes_a m_steps_a m_told_a cI cZ cB cC m_rules m_changes m_mostTries m_tried m_settled m_found m_isCovered m_covered m_toldMany m_there m_now m_kinds m_targets m_predicates m_numbers m_puts m_codes m_weights m_sets m_picks m_classesl14 m_steps m_told)) [0, 1, 2, 3, 4, 5, 6, 7, 8, 9, 10, 11, 12, 13, 14] (by decide) rfl
              refine k_calli (wr := []) (w1 := (wX m_a m_there_a m_now_a m_kinds_a m_targets_a m_predicates_a m_numbers_a m_puts_a m_codes_a m_weights_a m_sets_a m_picks_a m_classes_a m_steps_a m_told_a cI cZ cB cC m_rules m_changes m_mostTries m_tried m_settled m_found m_isCovered m_covered m_toldMany m_there m_now m_kinds m_targets m_predicates m_numbers m_puts m_codes m_weights m_sets m_picks x3 m_steps m_told)) (ws' := (wX m_a m_there_a m_now_a m_kinds_a m_targets_a m_predicates_a m_numbers_a m_puts_a m_codes_a m_weights_a m_sets_a m_picks_a m_classes_a m_steps_a m_told_a cI cZ cB cC m_rules m_changes m_mostTries m_tried m_settled m_found m_isCovered m_covered m_toldMany m_there m_now m_kinds m_targets m_predicates m_numbers m_puts m_codes m_weights m_sets m_picks x3 m_steps m_told)) (va_runV (As := [.int i2l4, .int i3l14]) (rest := [.int i1l14]) ⟨hx, hb, hml, hown, hts⟩ (kK5_isResult l D cI cZ cB cC H.size m_a m_there_a m_now_a m_kinds_a m_targets_a m_predicates_a m_numbers_a m_puts_a m_codes_a m_weights_a m_sets_a m_picks_a m_classes_a m_steps_a m_told_a m_rules m_changes m_mostTries m_tried m_settled m_found m_isCovered m_covered m_toldMany m_there m_now m_kinds m_targets m_predicates m_numbers m_puts m_codes m_weights m_sets m_picks m_classesl14 m_steps m_told i2l4 i3l14 x2 x3 ec4) (cwV 2 hts (gdV wdt4_49 wdt4_51 wds1_14 wdt1_10 gkK5_isResult) rfl rfl rfl (by decide +kernel) ⟨Nat.le_of_ble_eq_true rfl, Nat.le_of_ble_eq_true rfl⟩) ⟨Pr_blind, va_recv hK hPc (ci := 5) (q0 := 0) rfl rfl, fun U hU hW => ⟨rfl, Pr_at hK hN hPc hDc hU hW⟩⟩ rfl rfl hl.1 rfl (lv_room (Nat.le_of_ble_eq_true rfl)) dK5_resultsNow_24 ⟨Nat.le_of_ble_eq_true rfl, Nat.le_of_ble_eq_true rfl⟩) hP hD hS hA [0, 1, 2, 3, 4, 5, 6, 7, 8, 9, 10, 11, 12, 13, 14] [] [0, 1, 2, 3, 4, 5, 6, 7, 8, 9, 10, 11, 12, 13, 14] rfl rfl (by decide) (by decide) (by decide) rfl (fun H locs hP hD hS => ?_)
              refine lv_if_eq (tgt := 34) hx hb dK5_resultsNow_27 (by decide) (fun hc => ?_) (fun hc => ?_)
              · replace hm := ift hm hc
                refine lv_iconst (v := 0) hx hb dK5_resultsNow_34 (by decide) ?_
                refine lv_iadd hx hb dK5_resultsNow_35 ?_
                obtain ⟨x5, ex5, hm⟩ := bd1_s hm
                refine topi (Option.some.inj ex5) ?_
                refine lv_istore_n (lv' := [(1, .int x5), (3, .int i3l14), (2, .int i2l4), (0, .ref m_a)]) hx hb dK5_resultsNow_36 rfl hl (by decide) rfl (fun ls hl => ?_)
                obtain ⟨x6, ex6, hm⟩ := bd1_s hm
                refine lv_iinc (v := x6) (lv' := [(3, .int x6), (1, .int x5), (2, .int i2l4), (0, .ref m_a)]) hx hb dK5_resultsNow_37 hl (k := 1) rfl (by rw [← Option.some.inj ex6]; rfl) (by decide) rfl (fun ls hl => ?_)
                refine lv_goto (tgt := 14) hx hb dK5_resultsNow_40 (by decide) ?_
                exact ih14 x5 x6 x3 _ _ _ hm hP hD hS (lv_sub hl [0, 2, 1, 3] rfl)
              · replace hm := iff_ hm hc
                refine lv_iconst (v := 1) hx hb dK5_resultsNow_30 (by decide) ?_
                refine lv_goto (tgt := 35) hx hb dK5_resultsNow_31 (by decide) ?_
                refine lv_iadd hx hb dK5_resultsNow_35 ?_
                obtain ⟨x7, ex7, hm⟩ := bd1_s hm
                refine topi (Option.some.inj ex7) ?_
                refine lv_istore_n (lv' := [(1, .int x7), (3, .int i3l14), (2, .int i2l4), (0, .ref m_a)]) hx hb dK5_resultsNow_36 rfl hl (by decide) rfl (fun ls hl => ?_)
                obtain ⟨x8, ex8, hm⟩ := bd1_s hm
                refine lv_iinc (v := x8) (lv' := [(3, .int x8), (1, .int x7), (2, .int i2l4), (0, .ref m_a)]) hx hb dK5_resultsNow_37 hl (k := 1) rfl (by rw [← Option.some.inj ex8]; rfl) (by decide) rfl (fun ls hl => ?_)
                refine lv_goto (tgt := 14) hx hb dK5_resultsNow_40 (by decide) ?_
                exact ih14 x7 x8 x3 _ _ _ hm hP hD hS (lv_sub hl [0, 2, 1, 3] rfl)
        exact lp14 5000 i1l4 0 m_classesl4 _ _ _ hm hP hD hS (lv_sub hl [0, 1, 2, 3] rfl)
  exact lp4 5000 0 0 m_classes _ _ _ hm hP hD hS (lv_sub hl [0, 1, 2] rfl)
