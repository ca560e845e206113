abbrev rmK1_init : Room := { frames := 1, cells := 3, slots := 96, locals := 20 }
set_option maxHeartbeats 4000000 in
set_option maxRecDepth 100000 in
theorem kK1_init (l : Launch) (D : va_G) (cI cZ cB cC : ClassId) (sz : Nat) (ta : Nat) : Met l yK1_init wsK1_init rmK1_init (va_Pc [.ref ta] (Pr D (tyL cI cZ cB cC) sz [(ta, .inr (1, [.null, .null, .null, .int 0]))])) (va_Qv (fun (_ : Nat × Nat × Nat) => True) (fun u t => Po D (va_A [(ta, .inr (1, [.null, .null, .null, .int 0]))] sz) (wT ta u.1 u.2.1 u.2.2 cI cZ cB cC 1 (fun _ => 0) (fun _ => 0) (fun _ => 0)) t) (va_A [(ta, .inr (1, [.null, .null, .null, .int 0]))] sz)) 3 96 (va_A [(ta, .inr (1, [.null, .null, .null, .int 0]))] sz) := by
  refine Met.ofW (cc := cK1_init) (maxL := 1) (ret := none) (by decide) rfl ?_
  intro p e s m args below meth c s₁ B hml hv
  obtain ⟨rfl, hsz, hP, hK, hD0, hN⟩ := hv
  have hx := B.exec
  have hb := B.bytes
  have hr := B.returns
  have hts := htsA (atoms_spec (ws := wsK1_init) B.pre)
  have hown : s.vm.findClass RK1 = some m.cls := findClass_of_methodNamed B.named
  have hlocks := B.notSynchronized
  have hin : meth.name = "<init>" := (name_of_methodNamed B.named B.method).1
  subst hsz
  have hD := hD0.self (sz := s.heap.size)
  generalize hAe : va_A [(ta, .inr (1, [.null, .null, .null, .int 0]))] s.heap.size = A at hD ⊢
  have hA : ∀ q : Nat, s.heap.size ≤ q → A q := fun q h => by rw [← hAe]; exact Or.inr h
  refine kstart (A := A) hP (fun H hP hS => ?_)
  have hl := lv_entry ([.ref ta]) (n := 1) (Nat.le_of_ble_eq_true rfl)
  rw [lg_entry_eq]
  generalize (lg_sl ([.ref ta]) ++ List.replicate (1 - (lg_sl ([.ref ta])).length) Slot.unset).toArray = ls at hl ⊢
  have hl : lv_has ls 1 [(0, .ref ta)] := hl
  refine lv_aload_n hx hb dK1_init_0 rfl (lv_at hl 0 rfl) ?_
  refine W.objInit hx hb hown (hts _ wdt1_31) (hts _ wdt1_24) (hts _ wdt1_25) rfl (by rw [hml]; exact hl.1) rfl dK1_init_1 (Nat.le_of_ble_eq_true rfl) (Nat.le_of_ble_eq_true rfl) ?_
  refine W.eq (g2 := F0 m 4 ls []) rfl ?_
  refine lv_aload_n hx hb dK1_init_4 rfl (lv_at hl 0 rfl) ?_
  refine lv_bipush (v := 72) hx hb dK1_init_5 (by decide) ?_
  refine va_newa (atype := .int) (ty := .int) (N' := 72) (a0 := (72, .inl fun _ => 0)) hx hb (hts _ wdt1_45) rfl hK hP hD hS hA (fun _ => rfl) (by decide) (by decide) (by decide) (Nat.le_of_ble_eq_true rfl) (Nat.le_of_ble_eq_true rfl) dK1_init_7 (fun q1 cA H hK1 hP hD hS => ?_)
  obtain rfl := tyU hK1 0 (cI := cI) rfl (by decide)
  have hP : va_P D vwCl [(ta, .inr (1, [.null, .null, .null, .int 0])), (q1, .inl (cI, 72, .inl fun _ => 0))] H := hP
  have hD : va_D A [(ta, .inr (1, [.null, .null, .null, .int 0])), (q1, .inl (cI, 72, .inl fun _ => 0))] := hD
  refine W.widen (k := 1) (n := 72) (by omega) (by omega) ?_
  refine va_putF (D := D) (ci := 1) (v := .ref q1) (ty := .array .int) (C := RK1) (T := TK1) (N := 4) hx hb hts inK1 tyK1 tyK1_ok nmK1 hown hK hP hD hS 0 rfl rfl 0 (by decide) (hts _ wdt1_32) (fun _ h9 => h9) rfl hin rfl (by decide +kernel) rfl rfl (Nat.le_of_ble_eq_true rfl) dK1_init_9 (fun H locs hP hD hS => ?_)
  have hP : va_P D vwCl [(ta, .inr (1, [.ref q1, .null, .null, .int 0])), (q1, .inl (cI, 72, .inl fun _ => 0))] H := hP
  have hD : va_D A [(ta, .inr (1, [.ref q1, .null, .null, .int 0])), (q1, .inl (cI, 72, .inl fun _ => 0))] := hD
  refine lv_aload_n hx hb dK1_init_12 rfl (lv_at hl 0 rfl) ?_
  refine lv_bipush (v := 12) hx hb dK1_init_13 (by decide) ?_
  refine va_newa (atype := .int) (ty := .int) (N' := 12) (a0 := (12, .inl fun _ => 0)) hx hb (hts _ wdt1_45) rfl hK hP hD hS hA (fun _ => rfl) (by decide) (by decide) (by decide) (Nat.le_of_ble_eq_true rfl) (Nat.le_of_ble_eq_true rfl) dK1_init_15 (fun q2 cA H hK1 hP hD hS => ?_)
  obtain rfl := tyU hK1 0 (cI := cI) rfl (by decide)
  have hP : va_P D vwCl [(ta, .inr (1, [.ref q1, .null, .null, .int 0])), (q1, .inl (cI, 72, .inl fun _ => 0)), (q2, .inl (cI, 12, .inl fun _ => 0))] H := hP
  have hD : va_D A [(ta, .inr (1, [.ref q1, .null, .null, .int 0])), (q1, .inl (cI, 72, .inl fun _ => 0)), (q2, .inl (cI, 12, .inl fun _ => 0))] := hD
  refine W.widen (k := 2) (n := 84) (by omega) (by omega) ?_
  refine va_putF (D := D) (ci := 1) (v := .ref q2) (ty := .array .int) (C := RK1) (T := TK1) (N := 4) hx hb hts inK1 tyK1 tyK1_ok nmK1 hown hK hP hD hS 0 rfl rfl 1 (by decide) (hts _ wdt1_33) (fun _ h9 => h9) rfl hin rfl (by decide +kernel) rfl rfl (Nat.le_of_ble_eq_true rfl) dK1_init_17 (fun H locs hP hD hS => ?_)
  have hP : va_P D vwCl [(ta, .inr (1, [.ref q1, .ref q2, .null, .int 0])), (q1, .inl (cI, 72, .inl fun _ => 0)), (q2, .inl (cI, 12, .inl fun _ => 0))] H := hP
  have hD : va_D A [(ta, .inr (1, [.ref q1, .ref q2, .null, .int 0])), (q1, .inl (cI, 72, .inl fun _ => 0)), (q2, .inl (cI, 12, .inl fun _ => 0))] := hD
  refine lv_aload_n hx hb dK1_init_20 rfl (lv_at hl 0 rfl) ?_
  refine lv_bipush (v := 12) hx hb dK1_init_21 (by decide) ?_
  refine va_newa (atype := .int) (ty := .int) (N' := 12) (a0 := (12, .inl fun _ => 0)) hx hb (hts _ wdt1_45) rfl hK hP hD hS hA (fun _ => rfl) (by decide) (by decide) (by decide) (Nat.le_of_ble_eq_true rfl) (Nat.le_of_ble_eq_true rfl) dK1_init_23 (fun q3 cA H hK1 hP hD hS => ?_)
  obtain rfl := tyU hK1 0 (cI := cI) rfl (by decide)
  have hP : va_P D vwCl [(ta, .inr (1, [.ref q1, .ref q2, .null, .int 0])), (q1, .inl (cI, 72, .inl fun _ => 0)), (q2, .inl (cI, 12, .inl fun _ => 0)), (q3, .inl (cI, 12, .inl fun _ => 0))] H := hP
  have hD : va_D A [(ta, .inr (1, [.ref q1, .ref q2, .null, .int 0])), (q1, .inl (cI, 72, .inl fun _ => 0)), (q2, .inl (cI, 12, .inl fun _ => 0)), (q3, .inl (cI, 12, .inl fun _ => 0))] := hD
  refine W.widen (k := 3) (n := 96) (by omega) (by omega) ?_
  refine va_putF (D := D) (ci := 1) (v := .ref q3) (ty := .array .int) (C := RK1) (T := TK1) (N := 4) hx hb hts inK1 tyK1 tyK1_ok nmK1 hown hK hP hD hS 0 rfl rfl 2 (by decide) (hts _ wdt1_34) (fun _ h9 => h9) rfl hin rfl (by decide +kernel) rfl rfl (Nat.le_of_ble_eq_true rfl) dK1_init_25 (fun H locs hP hD hS => ?_)
  have hP : va_P D vwCl [(ta, .inr (1, [.ref q1, .ref q2, .ref q3, .int 0])), (q1, .inl (cI, 72, .inl fun _ => 0)), (q2, .inl (cI, 12, .inl fun _ => 0)), (q3, .inl (cI, 12, .inl fun _ => 0))] H := hP
  have hD : va_D A [(ta, .inr (1, [.ref q1, .ref q2, .ref q3, .int 0])), (q1, .inl (cI, 72, .inl fun _ => 0)), (q2, .inl (cI, 12, .inl fun _ => 0)), (q3, .inl (cI, 12, .inl fun _ => 0))] := hD
  refine lv_aload_n hx hb dK1_init_28 rfl (lv_at hl 0 rfl) ?_
  refine lv_iconst (v := 1) hx hb dK1_init_29 (by decide) ?_
  refine va_put (D := D) (ci := 1) (v := .int 1) (ty := .boolean) (C := RK1) (T := TK1) (N := 4) hx hb hts inK1 tyK1 tyK1_ok nmK1 hown hK hP hD hS 0 rfl rfl 3 (by decide) (hts _ wdt1_35) (fun _ h9 => h9) rfl (by decide +kernel) rfl rfl (Nat.le_of_ble_eq_true rfl) dK1_init_30 (fun H locs hP hD hS => ?_)
  have hP : va_P D vwCl [(ta, .inr (1, [.ref q1, .ref q2, .ref q3, .int 1])), (q1, .inl (cI, 72, .inl fun _ => 0)), (q2, .inl (cI, 12, .inl fun _ => 0)), (q3, .inl (cI, 12, .inl fun _ => 0))] H := hP
  have hD : va_D A [(ta, .inr (1, [.ref q1, .ref q2, .ref q3, .int 1])), (q1, .inl (cI, 72, .inl fun _ => 0)), (q2, .inl (cI, 12, .inl fun _ => 0)), (q3, .inl (cI, 12, .inl fun _ => 0))] := hD
  have hP := hP.sub (ws' := (wT ta q1 q2 q3 cI cZ cB cC 1 (fun _ => 0) (fun _ => 0) (fun _ => 0))) [0, 1, 2, 3] rfl
  have hD := hD.sub (ws' := (wT ta q1 q2 q3 cI cZ cB cC 1 (fun _ => 0) (fun _ => 0) (fun _ => 0))) [0, 1, 2, 3] (by decide) rfl
  exact k_retvu (S := Nat × Nat × Nat) (ws := fun u => (wT ta u.1 u.2.1 u.2.2 cI cZ cB cC 1 (fun _ => 0) (fun _ => 0) (fun _ => 0))) (q1, q2, q3) hx hb hr hlocks hP hD hS dK1_init_33
abbrev rmK2_init : Room := { frames := 1, cells := 4, slots := 40, locals := 20 }
set_option maxHeartbeats 4000000 in
set_option maxRecDepth 100000 in
theorem kK2_init (l : Launch) (D : va_G) (cI cZ cB cC : ClassId) (sz : Nat) (ra : Nat) : Met l yK2_init wsK2_init rmK2_init (va_Pc [.ref ra] (Pr D (tyL cI cZ cB cC) sz [(ra, .inr (2, [.null, .null, .null, .null, .int 0]))])) (va_Qv (fun (_ : Nat × Nat × Nat × Nat) => True) (fun u t => Po D (va_A [(ra, .inr (2, [.null, .null, .null, .null, .int 0]))] sz) (wR ra u.1 u.2.1 u.2.2.1 u.2.2.2 cI cZ cB cC 0 (fun _ => 0) (fun _ => 0) (fun _ => 0) (fun _ => 0)) t) (va_A [(ra, .inr (2, [.null, .null, .null, .null, .int 0]))] sz)) 4 40 (va_A [(ra, .inr (2, [.null, .null, .null, .null, .int 0]))] sz) := by
  refine Met.ofW (cc := cK2_init) (maxL := 1) (ret := none) (by decide) rfl ?_
  intro p e s m args below meth c s₁ B hml hv
  obtain ⟨rfl, hsz, hP, hK, hD0, hN⟩ := hv
  have hx := B.exec
  have hb := B.bytes
  have hr := B.returns
  have hts := htsA (atoms_spec (ws := wsK2_init) B.pre)
  have hown : s.vm.findClass RK2 = some m.cls := findClass_of_methodNamed B.named
  have hlocks := B.notSynchronized
  have hin : meth.name = "<init>" := (name_of_methodNamed B.named B.method).1
  subst hsz
  have hD := hD0.self (sz := s.heap.size)
  generalize hAe : va_A [(ra, .inr (2, [.null, .null, .null, .null, .int 0]))] s.heap.size = A at hD ⊢
  have hA : ∀ q : Nat, s.heap.size ≤ q → A q := fun q h => by rw [← hAe]; exact Or.inr h
  refine kstart (A := A) hP (fun H hP hS => ?_)
  have hl := lv_entry ([.ref ra]) (n := 1) (Nat.le_of_ble_eq_true rfl)
  rw [lg_entry_eq]
  generalize (lg_sl ([.ref ra]) ++ List.replicate (1 - (lg_sl ([.ref ra])).length) Slot.unset).toArray = ls at hl ⊢
  have hl : lv_has ls 1 [(0, .ref ra)] := hl
  refine lv_aload_n hx hb dK2_init_0 rfl (lv_at hl 0 rfl) ?_
  refine W.objInit hx hb hown (hts _ wdt1_51) (hts _ wdt1_24) (hts _ wdt1_25) rfl (by rw [hml]; exact hl.1) rfl dK2_init_1 (Nat.le_of_ble_eq_true rfl) (Nat.le_of_ble_eq_true rfl) ?_
  refine W.eq (g2 := F0 m 4 ls []) rfl ?_
  refine lv_aload_n hx hb dK2_init_4 rfl (lv_at hl 0 rfl) ?_
  refine lv_bipush (v := 10) hx hb dK2_init_5 (by decide) ?_
  refine va_newa (atype := .int) (ty := .int) (N' := 10) (a0 := (10, .inl fun _ => 0)) hx hb (hts _ wdt1_45) rfl hK hP hD hS hA (fun _ => rfl) (by decide) (by decide) (by decide) (Nat.le_of_ble_eq_true rfl) (Nat.le_of_ble_eq_true rfl) dK2_init_7 (fun q1 cA H hK1 hP hD hS => ?_)
  obtain rfl := tyU hK1 0 (cI := cI) rfl (by decide)
  have hP : va_P D vwCl [(ra, .inr (2, [.null, .null, .null, .null, .int 0])), (q1, .inl (cI, 10, .inl fun _ => 0))] H := hP
  have hD : va_D A [(ra, .inr (2, [.null, .null, .null, .null, .int 0])), (q1, .inl (cI, 10, .inl fun _ => 0))] := hD
  refine W.widen (k := 1) (n := 10) (by omega) (by omega) ?_
  refine va_putF (D := D) (ci := 2) (v := .ref q1) (ty := .array .int) (C := RK2) (T := TK2) (N := 5) hx hb hts inK2 tyK2 tyK2_ok nmK2 hown hK hP hD hS 0 rfl rfl 0 (by decide) (hts _ wdt1_52) (fun _ h9 => h9) rfl hin rfl (by decide +kernel) rfl rfl (Nat.le_of_ble_eq_true rfl) dK2_init_9 (fun H locs hP hD hS => ?_)
  have hP : va_P D vwCl [(ra, .inr (2, [.ref q1, .null, .null, .null, .int 0])), (q1, .inl (cI, 10, .inl fun _ => 0))] H := hP
  have hD : va_D A [(ra, .inr (2, [.ref q1, .null, .null, .null, .int 0])), (q1, .inl (cI, 10, .inl fun _ => 0))] := hD
  refine lv_aload_n hx hb dK2_init_12 rfl (lv_at hl 0 rfl) ?_
  refine lv_bipush (v := 10) hx hb dK2_init_13 (by decide) ?_
  refine va_newa (atype := .int) (ty := .int) (N' := 10) (a0 := (10, .inl fun _ => 0)) hx hb (hts _ wdt1_45) rfl hK hP hD hS hA (fun _ => rfl) (by decide) (by decide) (by decide) (Nat.le_of_ble_eq_true rfl) (Nat.le_of_ble_eq_true rfl) dK2_init_15 (fun q2 cA H hK1 hP hD hS => ?_)
  obtain rfl := tyU hK1 0 (cI := cI) rfl (by decide)
  have hP : va_P D vwCl [(ra, .inr (2, [.ref q1, .null, .null, .null, .int 0])), (q1, .inl (cI, 10, .inl fun _ => 0)), (q2, .inl (cI, 10, .inl fun _ => 0))] H := hP
  have hD : va_D A [(ra, .inr (2, [.ref q1, .null, .null, .null, .int 0])), (q1, .inl (cI, 10, .inl fun _ => 0)), (q2, .inl (cI, 10, .inl fun _ => 0))] := hD
  refine W.widen (k := 2) (n := 20) (by omega) (by omega) ?_
  refine va_putF (D := D) (ci := 2) (v := .ref q2) (ty := .array .int) (C := RK2) (T := TK2) (N := 5) hx hb hts inK2 tyK2 tyK2_ok nmK2 hown hK hP hD hS 0 rfl rfl 1 (by decide) (hts _ wdt1_54) (fun _ h9 => h9) rfl hin rfl (by decide +kernel) rfl rfl (Nat.le_of_ble_eq_true rfl) dK2_init_17 (fun H locs hP hD hS => ?_)
  have hP : va_P D vwCl [(ra, .inr (2, [.ref q1, .ref q2, .null, .null, .int 0])), (q1, .inl (cI, 10, .inl fun _ => 0)), (q2, .inl (cI, 10, .inl fun _ => 0))] H := hP
  have hD : va_D A [(ra, .inr (2, [.ref q1, .ref q2, .null, .null, .int 0])), (q1, .inl (cI, 10, .inl fun _ => 0)), (q2, .inl (cI, 10, .inl fun _ => 0))] := hD
  refine lv_aload_n hx hb dK2_init_20 rfl (lv_at hl 0 rfl) ?_
  refine lv_bipush (v := 10) hx hb dK2_init_21 (by decide) ?_
  refine va_newa (atype := .int) (ty := .int) (N' := 10) (a0 := (10, .inl fun _ => 0)) hx hb (hts _ wdt1_45) rfl hK hP hD hS hA (fun _ => rfl) (by decide) (by decide) (by decide) (Nat.le_of_ble_eq_true rfl) (Nat.le_of_ble_eq_true rfl) dK2_init_23 (fun q3 cA H hK1 hP hD hS => ?_)
  obtain rfl := tyU hK1 0 (cI := cI) rfl (by decide)
  have hP : va_P D vwCl [(ra, .inr (2, [.ref q1, .ref q2, .null, .null, .int 0])), (q1, .inl (cI, 10, .inl fun _ => 0)), (q2, .inl (cI, 10, .inl fun _ => 0)), (q3, .inl (cI, 10, .inl fun _ => 0))] H := hP
  have hD : va_D A [(ra, .inr (2, [.ref q1, .ref q2, .null, .null, .int 0])), (q1, .inl (cI, 10, .inl fun _ => 0)), (q2, .inl (cI, 10, .inl fun _ => 0)), (q3, .inl (cI, 10, .inl fun _ => 0))] := hD
  refine W.widen (k := 3) (n := 30) (by omega) (by omega) ?_
  refine va_putF (D := D) (ci := 2) (v := .ref q3) (ty := .array .int) (C := RK2) (T := TK2) (N := 5) hx hb hts inK2 tyK2 tyK2_ok nmK2 hown hK hP hD hS 0 rfl rfl 2 (by decide) (hts _ wdt1_56) (fun _ h9 => h9) rfl hin rfl (by decide +kernel) rfl rfl (Nat.le_of_ble_eq_true rfl) dK2_init_25 (fun H locs hP hD hS => ?_)
  have hP : va_P D vwCl [(ra, .inr (2, [.ref q1, .ref q2, .ref q3, .null, .int 0])), (q1, .inl (cI, 10, .inl fun _ => 0)), (q2, .inl (cI, 10, .inl fun _ => 0)), (q3, .inl (cI, 10, .inl fun _ => 0))] H := hP
  have hD : va_D A [(ra, .inr (2, [.ref q1, .ref q2, .ref q3, .null, .int 0])), (q1, .inl (cI, 10, .inl fun _ => 0)), (q2, .inl (cI, 10, .inl fun _ => 0)), (q3, .inl (cI, 10, .inl fun _ => 0))] := hD
  refine lv_aload_n hx hb dK2_init_28 rfl (lv_at hl 0 rfl) ?_
  refine lv_bipush (v := 10) hx hb dK2_init_29 (by decide) ?_
  refine va_newa (atype := .int) (ty := .int) (N' := 10) (a0 := (10, .inl fun _ => 0)) hx hb (hts _ wdt1_45) rfl hK hP hD hS hA (fun _ => rfl) (by decide) (by decide) (by decide) (Nat.le_of_ble_eq_true rfl) (Nat.le_of_ble_eq_true rfl) dK2_init_31 (fun q4 cA H hK1 hP hD hS => ?_)
  obtain rfl := tyU hK1 0 (cI := cI) rfl (by decide)
  have hP : va_P D vwCl [(ra, .inr (2, [.ref q1, .ref q2, .ref q3, .null, .int 0])), (q1, .inl (cI, 10, .inl fun _ => 0)), (q2, .inl (cI, 10, .inl fun _ => 0)), (q3, .inl (cI, 10, .inl fun _ => 0)), (q4, .inl (cI, 10, .inl fun _ => 0))] H := hP
  have hD : va_D A [(ra, .inr (2, [.ref q1, .ref q2, .ref q3, .null, .int 0])), (q1, .inl (cI, 10, .inl fun _ => 0)), (q2, .inl (cI, 10, .inl fun _ => 0)), (q3, .inl (cI, 10, .inl fun _ => 0)), (q4, .inl (cI, 10, .inl fun _ => 0))] := hD
  refine W.widen (k := 4) (n := 40) (by omega) (by omega) ?_
  refine va_putF (D := D) (ci := 2) (v := .ref q4) (ty := .array .int) (C := RK2) (T := TK2) (N := 5) hx hb hts inK2 tyK2 tyK2_ok nmK2 hown hK hP hD hS 0 rfl rfl 3 (by decide) (hts _ wdt1_58) (fun _ h9 => h9) rfl hin rfl (by decide +kernel) rfl rfl (Nat.le_of_ble_eq_true rfl) dK2_init_33 (fun H locs hP hD hS => ?_)
  have hP : va_P D vwCl [(ra, .inr (2, [.ref q1, .ref q2, .ref q3, .ref q4, .int 0])), (q1, .inl (cI, 10, .inl fun _ => 0)), (q2, .inl (cI, 10, .inl fun _ => 0)), (q3, .inl (cI, 10, .inl fun _ => 0)), (q4, .inl (cI, 10, .inl fun _ => 0))] H := hP
  have hD : va_D A [(ra, .inr (2, [.ref q1, .ref q2, .ref q3, .ref q4, .int 0])), (q1, .inl (cI, 10, .inl fun _ => 0)), (q2, .inl (cI, 10, .inl fun _ => 0)), (q3, .inl (cI, 10, .inl fun _ => 0)), (q4, .inl (cI, 10, .inl fun _ => 0))] := hD
  refine lv_aload_n hx hb dK2_init_36 rfl (lv_at hl 0 rfl) ?_
  refine lv_iconst (v := 0) hx hb dK2_init_37 (by decide) ?_
  refine va_put (D := D) (ci := 2) (v := .int 0) (ty := .int) (C := RK2) (T := TK2) (N := 5) hx hb hts inK2 tyK2 tyK2_ok nmK2 hown hK hP hD hS 0 rfl rfl 4 (by decide) (hts _ wdt1_60) (fun _ h9 => h9) rfl (by decide +kernel) rfl rfl (Nat.le_of_ble_eq_true rfl) dK2_init_38 (fun H locs hP hD hS => ?_)
  have hP : va_P D vwCl [(ra, .inr (2, [.ref q1, .ref q2, .ref q3, .ref q4, .int 0])), (q1, .inl (cI, 10, .inl fun _ => 0)), (q2, .inl (cI, 10, .inl fun _ => 0)), (q3, .inl (cI, 10, .inl fun _ => 0)), (q4, .inl (cI, 10, .inl fun _ => 0))] H := hP
  have hD : va_D A [(ra, .inr (2, [.ref q1, .ref q2, .ref q3, .ref q4, .int 0])), (q1, .inl (cI, 10, .inl fun _ => 0)), (q2, .inl (cI, 10, .inl fun _ => 0)), (q3, .inl (cI, 10, .inl fun _ => 0)), (q4, .inl (cI, 10, .inl fun _ => 0))] := hD
  have hP := hP.sub (ws' := (wR ra q1 q2 q3 q4 cI cZ cB cC 0 (fun _ => 0) (fun _ => 0) (fun _ => 0) (fun _ => 0))) [0, 1, 2, 3, 4] rfl
  have hD := hD.sub (ws' := (wR ra q1 q2 q3 q4 cI cZ cB cC 0 (fun _ => 0) (fun _ => 0) (fun _ => 0) (fun _ => 0))) [0, 1, 2, 3, 4] (by decide) rfl
  exact k_retvu (S := Nat × Nat × Nat × Nat) (ws := fun u => (wR ra u.1 u.2.1 u.2.2.1 u.2.2.2 cI cZ cB cC 0 (fun _ => 0) (fun _ => 0) (fun _ => 0) (fun _ => 0))) (q1, q2, q3, q4) hx hb hr hlocks hP hD hS dK2_init_41
abbrev rmK3_init : Room := { frames := 1, cells := 3, slots := 36, locals := 20 }
set_option maxHeartbeats 4000000 in
set_option maxRecDepth 100000 in
theorem kK3_init (l : Launch) (D : va_G) (cI cZ cB cC : ClassId) (sz : Nat) (ca : Nat) : Met l yK3_init wsK3_init rmK3_init (va_Pc [.ref ca] (Pr D (tyL cI cZ cB cC) sz [(ca, .inr (3, [.null, .null, .null, .int 0]))])) (va_Qv (fun (_ : Nat × Nat × Nat) => True) (fun u t => Po D (va_A [(ca, .inr (3, [.null, .null, .null, .int 0]))] sz) (wC ca u.1 u.2.1 u.2.2 cI cZ cB cC 0 (fun _ => 0) (fun _ => 0) (fun _ => 0)) t) (va_A [(ca, .inr (3, [.null, .null, .null, .int 0]))] sz)) 3 36 (va_A [(ca, .inr (3, [.null, .null, .null, .int 0]))] sz) := by
  refine Met.ofW (cc := cK3_init) (maxL := 1) (ret := none) (by decide) rfl ?_
  intro p e s m args below meth c s₁ B hml hv
  obtain ⟨rfl, hsz, hP, hK, hD0, hN⟩ := hv
  have hx := B.exec
  have hb := B.bytes
  have hr := B.returns
  have hts := htsA (atoms_spec (ws := wsK3_init) B.pre)
  have hown : s.vm.findClass RK3 = some m.cls := findClass_of_methodNamed B.named
  have hlocks := B.notSynchronized
  have hin : meth.name = "<init>" := (name_of_methodNamed B.named B.method).1
  subst hsz
  have hD := hD0.self (sz := s.heap.size)
  generalize hAe : va_A [(ca, .inr (3, [.null, .null, .null, .int 0]))] s.heap.size = A at hD ⊢
  have hA : ∀ q : Nat, s.heap.size ≤ q → A q := fun q h => by rw [← hAe]; exact Or.inr h
  refine kstart (A := A) hP (fun H hP hS => ?_)
  have hl := lv_entry ([.ref ca]) (n := 1) (Nat.le_of_ble_eq_true rfl)
  rw [lg_entry_eq]
  generalize (lg_sl ([.ref ca]) ++ List.replicate (1 - (lg_sl ([.ref ca])).length) Slot.unset).toArray = ls at hl ⊢
  have hl : lv_has ls 1 [(0, .ref ca)] := hl
  refine lv_aload_n hx hb dK3_init_0 rfl (lv_at hl 0 rfl) ?_
  refine W.objInit hx hb hown (hts _ wdt1_78) (hts _ wdt1_24) (hts _ wdt1_25) rfl (by rw [hml]; exact hl.1) rfl dK3_init_1 (Nat.le_of_ble_eq_true rfl) (Nat.le_of_ble_eq_true rfl) ?_
  refine W.eq (g2 := F0 m 4 ls []) rfl ?_
  refine lv_aload_n hx hb dK3_init_4 rfl (lv_at hl 0 rfl) ?_
  refine lv_bipush (v := 12) hx hb dK3_init_5 (by decide) ?_
  refine va_newa (atype := .boolean) (ty := .boolean) (N' := 12) (a0 := (12, .inl fun _ => 0)) hx hb (hts _ wdt1_93) rfl hK hP hD hS hA (fun _ => rfl) (by decide) (by decide) (by decide) (Nat.le_of_ble_eq_true rfl) (Nat.le_of_ble_eq_true rfl) dK3_init_7 (fun q1 cA H hK1 hP hD hS => ?_)
  obtain rfl := tyU hK1 1 (cI := cZ) rfl (by decide)
  have hP : va_P D vwCl [(ca, .inr (3, [.null, .null, .null, .int 0])), (q1, .inl (cZ, 12, .inl fun _ => 0))] H := hP
  have hD : va_D A [(ca, .inr (3, [.null, .null, .null, .int 0])), (q1, .inl (cZ, 12, .inl fun _ => 0))] := hD
  refine W.widen (k := 1) (n := 12) (by omega) (by omega) ?_
  refine va_putF (D := D) (ci := 3) (v := .ref q1) (ty := .array .boolean) (C := RK3) (T := TK3) (N := 4) hx hb hts inK3 tyK3 tyK3_ok nmK3 hown hK hP hD hS 0 rfl rfl 0 (by decide) (hts _ wdt1_79) (fun _ h9 => h9) rfl hin rfl (by decide +kernel) rfl rfl (Nat.le_of_ble_eq_true rfl) dK3_init_9 (fun H locs hP hD hS => ?_)
  have hP : va_P D vwCl [(ca, .inr (3, [.ref q1, .null, .null, .int 0])), (q1, .inl (cZ, 12, .inl fun _ => 0))] H := hP
  have hD : va_D A [(ca, .inr (3, [.ref q1, .null, .null, .int 0])), (q1, .inl (cZ, 12, .inl fun _ => 0))] := hD
  refine lv_aload_n hx hb dK3_init_12 rfl (lv_at hl 0 rfl) ?_
  refine lv_bipush (v := 12) hx hb dK3_init_13 (by decide) ?_
  refine va_newa (atype := .int) (ty := .int) (N' := 12) (a0 := (12, .inl fun _ => 0)) hx hb (hts _ wdt1_45) rfl hK hP hD hS hA (fun _ => rfl) (by decide) (by decide) (by decide) (Nat.le_of_ble_eq_true rfl) (Nat.le_of_ble_eq_true rfl) dK3_init_15 (fun q2 cA H hK1 hP hD hS => ?_)
  obtain rfl := tyU hK1 0 (cI := cI) rfl (by decide)
  have hP : va_P D vwCl [(ca, .inr (3, [.ref q1, .null, .null, .int 0])), (q1, .inl (cZ, 12, .inl fun _ => 0)), (q2, .inl (cI, 12, .inl fun _ => 0))] H := hP
  have hD : va_D A [(ca, .inr (3, [.ref q1, .null, .null, .int 0])), (q1, .inl (cZ, 12, .inl fun _ => 0)), (q2, .inl (cI, 12, .inl fun _ => 0))] := hD
  refine W.widen (k := 2) (n := 24) (by omega) (by omega) ?_
  refine va_putF (D := D) (ci := 3) (v := .ref q2) (ty := .array .int) (C := RK3) (T := TK3) (N := 4) hx hb hts inK3 tyK3 tyK3_ok nmK3 hown hK hP hD hS 0 rfl rfl 1 (by decide) (hts _ wdt1_80) (fun _ h9 => h9) rfl hin rfl (by decide +kernel) rfl rfl (Nat.le_of_ble_eq_true rfl) dK3_init_17 (fun H locs hP hD hS => ?_)
  have hP : va_P D vwCl [(ca, .inr (3, [.ref q1, .ref q2, .null, .int 0])), (q1, .inl (cZ, 12, .inl fun _ => 0)), (q2, .inl (cI, 12, .inl fun _ => 0))] H := hP
  have hD : va_D A [(ca, .inr (3, [.ref q1, .ref q2, .null, .int 0])), (q1, .inl (cZ, 12, .inl fun _ => 0)), (q2, .inl (cI, 12, .inl fun _ => 0))] := hD
  refine lv_aload_n hx hb dK3_init_20 rfl (lv_at hl 0 rfl) ?_
  refine lv_bipush (v := 12) hx hb dK3_init_21 (by decide) ?_
  refine va_newa (atype := .int) (ty := .int) (N' := 12) (a0 := (12, .inl fun _ => 0)) hx hb (hts _ wdt1_45) rfl hK hP hD hS hA (fun _ => rfl) (by decide) (by decide) (by decide) (Nat.le_of_ble_eq_true rfl) (Nat.le_of_ble_eq_true rfl) dK3_init_23 (fun q3 cA H hK1 hP hD hS => ?_)
  obtain rfl := tyU hK1 0 (cI := cI) rfl (by decide)
  have hP : va_P D vwCl [(ca, .inr (3, [.ref q1, .ref q2, .null, .int 0])), (q1, .inl (cZ, 12, .inl fun _ => 0)), (q2, .inl (cI, 12, .inl fun _ => 0)), (q3, .inl (cI, 12, .inl fun _ => 0))] H := hP
  have hD : va_D A [(ca, .inr (3, [.ref q1, .ref q2, .null, .int 0])), (q1, .inl (cZ, 12, .inl fun _ => 0)), (q2, .inl (cI, 12, .inl fun _ => 0)), (q3, .inl (cI, 12, .inl fun _ => 0))] := hD
  refine W.widen (k := 3) (n := 36) (by omega) (by omega) ?_
  refine va_putF (D := D) (ci := 3) (v := .ref q3) (ty := .array .int) (C := RK3) (T := TK3) (N := 4) hx hb hts inK3 tyK3 tyK3_ok nmK3 hown hK hP hD hS 0 rfl rfl 2 (by decide) (hts _ wdt1_81) (fun _ h9 => h9) rfl hin rfl (by decide +kernel) rfl rfl (Nat.le_of_ble_eq_true rfl) dK3_init_25 (fun H locs hP hD hS => ?_)
  have hP : va_P D vwCl [(ca, .inr (3, [.ref q1, .ref q2, .ref q3, .int 0])), (q1, .inl (cZ, 12, .inl fun _ => 0)), (q2, .inl (cI, 12, .inl fun _ => 0)), (q3, .inl (cI, 12, .inl fun _ => 0))] H := hP
  have hD : va_D A [(ca, .inr (3, [.ref q1, .ref q2, .ref q3, .int 0])), (q1, .inl (cZ, 12, .inl fun _ => 0)), (q2, .inl (cI, 12, .inl fun _ => 0)), (q3, .inl (cI, 12, .inl fun _ => 0))] := hD
  refine lv_aload_n hx hb dK3_init_28 rfl (lv_at hl 0 rfl) ?_
  refine lv_iconst (v := 0) hx hb dK3_init_29 (by decide) ?_
  refine va_put (D := D) (ci := 3) (v := .int 0) (ty := .int) (C := RK3) (T := TK3) (N := 4) hx hb hts inK3 tyK3 tyK3_ok nmK3 hown hK hP hD hS 0 rfl rfl 3 (by decide) (hts _ wdt1_82) (fun _ h9 => h9) rfl (by decide +kernel) rfl rfl (Nat.le_of_ble_eq_true rfl) dK3_init_30 (fun H locs hP hD hS => ?_)
  have hP : va_P D vwCl [(ca, .inr (3, [.ref q1, .ref q2, .ref q3, .int 0])), (q1, .inl (cZ, 12, .inl fun _ => 0)), (q2, .inl (cI, 12, .inl fun _ => 0)), (q3, .inl (cI, 12, .inl fun _ => 0))] H := hP
  have hD : va_D A [(ca, .inr (3, [.ref q1, .ref q2, .ref q3, .int 0])), (q1, .inl (cZ, 12, .inl fun _ => 0)), (q2, .inl (cI, 12, .inl fun _ => 0)), (q3, .inl (cI, 12, .inl fun _ => 0))] := hD
  have hP := hP.sub (ws' := (wC ca q1 q2 q3 cI cZ cB cC 0 (fun _ => 0) (fun _ => 0) (fun _ => 0))) [0, 1, 2, 3] rfl
  have hD := hD.sub (ws' := (wC ca q1 q2 q3 cI cZ cB cC 0 (fun _ => 0) (fun _ => 0) (fun _ => 0))) [0, 1, 2, 3] (by decide) rfl
  exact k_retvu (S := Nat × Nat × Nat) (ws := fun u => (wC ca u.1 u.2.1 u.2.2 cI cZ cB cC 0 (fun _ => 0) (fun _ => 0) (fun _ => 0))) (q1, q2, q3) hx hb hr hlocks hP hD hS dK3_init_33
abbrev rmK4_init : Room := { frames := 1, cells := 2, slots := 60, locals := 20 }
set_option maxHeartbeats 4000000 in
set_option maxRecDepth 100000 in
theorem kK4_init (l : Launch) (D : va_G) (cI cZ cB cC : ClassId) (sz : Nat) (fa : Nat) : Met l yK4_init wsK4_init rmK4_init (va_Pc [.ref fa] (Pr D (tyL cI cZ cB cC) sz [(fa, .inr (4, [.null, .null, .int 0]))])) (va_Qv (fun (_ : Nat × Nat) => True) (fun u t => Po D (va_A [(fa, .inr (4, [.null, .null, .int 0]))] sz) (wF fa u.1 u.2 cI cZ cB cC 0 (fun _ => 0) (fun _ => 0)) t) (va_A [(fa, .inr (4, [.null, .null, .int 0]))] sz)) 2 60 (va_A [(fa, .inr (4, [.null, .null, .int 0]))] sz) := by
  refine Met.ofW (cc := cK4_init) (maxL := 1) (ret := none) (by decide) rfl ?_
  intro p e s m args below meth c s₁ B hml hv
  obtain ⟨rfl, hsz, hP, hK, hD0, hN⟩ := hv
  have hx := B.exec
  have hb := B.bytes
  have hr := B.returns
  have hts := htsA (atoms_spec (ws := wsK4_init) B.pre)
  have hown : s.vm.findClass RK4 = some m.cls := findClass_of_methodNamed B.named
  have hlocks := B.notSynchronized
  have hin : meth.name = "<init>" := (name_of_methodNamed B.named B.method).1
  subst hsz
  have hD := hD0.self (sz := s.heap.size)
  generalize hAe : va_A [(fa, .inr (4, [.null, .null, .int 0]))] s.heap.size = A at hD ⊢
  have hA : ∀ q : Nat, s.heap.size ≤ q → A q := fun q h => by rw [← hAe]; exact Or.inr h
  refine kstart (A := A) hP (fun H hP hS => ?_)
  have hl := lv_entry ([.ref fa]) (n := 1) (Nat.le_of_ble_eq_true rfl)
  rw [lg_entry_eq]
  generalize (lg_sl ([.ref fa]) ++ List.replicate (1 - (lg_sl ([.ref fa])).length) Slot.unset).toArray = ls at hl ⊢
  have hl : lv_has ls 1 [(0, .ref fa)] := hl
  refine lv_aload_n hx hb dK4_init_0 rfl (lv_at hl 0 rfl) ?_
  refine W.objInit hx hb hown (hts _ wdt1_99) (hts _ wdt1_24) (hts _ wdt1_25) rfl (by rw [hml]; exact hl.1) rfl dK4_init_1 (Nat.le_of_ble_eq_true rfl) (Nat.le_of_ble_eq_true rfl) ?_
  refine W.eq (g2 := F0 m 4 ls []) rfl ?_
  refine lv_aload_n hx hb dK4_init_4 rfl (lv_at hl 0 rfl) ?_
  refine lv_bipush (v := 30) hx hb dK4_init_5 (by decide) ?_
  refine va_newa (atype := .int) (ty := .int) (N' := 30) (a0 := (30, .inl fun _ => 0)) hx hb (hts _ wdt1_45) rfl hK hP hD hS hA (fun _ => rfl) (by decide) (by decide) (by decide) (Nat.le_of_ble_eq_true rfl) (Nat.le_of_ble_eq_true rfl) dK4_init_7 (fun q1 cA H hK1 hP hD hS => ?_)
  obtain rfl := tyU hK1 0 (cI := cI) rfl (by decide)
  have hP : va_P D vwCl [(fa, .inr (4, [.null, .null, .int 0])), (q1, .inl (cI, 30, .inl fun _ => 0))] H := hP
  have hD : va_D A [(fa, .inr (4, [.null, .null, .int 0])), (q1, .inl (cI, 30, .inl fun _ => 0))] := hD
  refine W.widen (k := 1) (n := 30) (by omega) (by omega) ?_
  refine va_putF (D := D) (ci := 4) (v := .ref q1) (ty := .array .int) (C := RK4) (T := TK4) (N := 3) hx hb hts inK4 tyK4 tyK4_ok nmK4 hown hK hP hD hS 0 rfl rfl 0 (by decide) (hts _ wdt1_100) (fun _ h9 => h9) rfl hin rfl (by decide +kernel) rfl rfl (Nat.le_of_ble_eq_true rfl) dK4_init_9 (fun H locs hP hD hS => ?_)
  have hP : va_P D vwCl [(fa, .inr (4, [.ref q1, .null, .int 0])), (q1, .inl (cI, 30, .inl fun _ => 0))] H := hP
  have hD : va_D A [(fa, .inr (4, [.ref q1, .null, .int 0])), (q1, .inl (cI, 30, .inl fun _ => 0))] := hD
  refine lv_aload_n hx hb dK4_init_12 rfl (lv_at hl 0 rfl) ?_
  refine lv_bipush (v := 30) hx hb dK4_init_13 (by decide) ?_
  refine va_newa (atype := .int) (ty := .int) (N' := 30) (a0 := (30, .inl fun _ => 0)) hx hb (hts _ wdt1_45) rfl hK hP hD hS hA (fun _ => rfl) (by decide) (by decide) (by decide) (Nat.le_of_ble_eq_true rfl) (Nat.le_of_ble_eq_true rfl) dK4_init_15 (fun q2 cA H hK1 hP hD hS => ?_)
  obtain rfl := tyU hK1 0 (cI := cI) rfl (by decide)
  have hP : va_P D vwCl [(fa, .inr (4, [.ref q1, .null, .int 0])), (q1, .inl (cI, 30, .inl fun _ => 0)), (q2, .inl (cI, 30, .inl fun _ => 0))] H := hP
  have hD : va_D A [(fa, .inr (4, [.ref q1, .null, .int 0])), (q1, .inl (cI, 30, .inl fun _ => 0)), (q2, .inl (cI, 30, .inl fun _ => 0))] := hD
  refine W.widen (k := 2) (n := 60) (by omega) (by omega) ?_
  refine va_putF (D := D) (ci := 4) (v := .ref q2) (ty := .array .int) (C := RK4) (T := TK4) (N := 3) hx hb hts inK4 tyK4 tyK4_ok nmK4 hown hK hP hD hS 0 rfl rfl 1 (by decide) (hts _ wdt1_101) (fun _ h9 => h9) rfl hin rfl (by decide +kernel) rfl rfl (Nat.le_of_ble_eq_true rfl) dK4_init_17 (fun H locs hP hD hS => ?_)
  have hP : va_P D vwCl [(fa, .inr (4, [.ref q1, .ref q2, .int 0])), (q1, .inl (cI, 30, .inl fun _ => 0)), (q2, .inl (cI, 30, .inl fun _ => 0))] H := hP
  have hD : va_D A [(fa, .inr (4, [.ref q1, .ref q2, .int 0])), (q1, .inl (cI, 30, .inl fun _ => 0)), (q2, .inl (cI, 30, .inl fun _ => 0))] := hD
  refine lv_aload_n hx hb dK4_init_20 rfl (lv_at hl 0 rfl) ?_
  refine lv_iconst (v := 0) hx hb dK4_init_21 (by decide) ?_
  refine va_put (D := D) (ci := 4) (v := .int 0) (ty := .int) (C := RK4) (T := TK4) (N := 3) hx hb hts inK4 tyK4 tyK4_ok nmK4 hown hK hP hD hS 0 rfl rfl 2 (by decide) (hts _ wdt1_102) (fun _ h9 => h9) rfl (by decide +kernel) rfl rfl (Nat.le_of_ble_eq_true rfl) dK4_init_22 (fun H locs hP hD hS => ?_)
  have hP : va_P D vwCl [(fa, .inr (4, [.ref q1, .ref q2, .int 0])), (q1, .inl (cI, 30, .inl fun _ => 0)), (q2, .inl (cI, 30, .inl fun _ => 0))] H := hP
  have hD : va_D A [(fa, .inr (4, [.ref q1, .ref q2, .int 0])), (q1, .inl (cI, 30, .inl fun _ => 0)), (q2, .inl (cI, 30, .inl fun _ => 0))] := hD
  have hP := hP.sub (ws' := (wF fa q1 q2 cI cZ cB cC 0 (fun _ => 0) (fun _ => 0))) [0, 1, 2] rfl
  have hD := hD.sub (ws' := (wF fa q1 q2 cI cZ cB cC 0 (fun _ => 0) (fun _ => 0))) [0, 1, 2] (by decide) rfl
  exact k_retvu (S := Nat × Nat) (ws := fun u => (wF fa u.1 u.2 cI cZ cB cC 0 (fun _ => 0) (fun _ => 0))) (q1, q2) hx hb hr hlocks hP hD hS dK4_init_25
def mK0_isNode (v0 : Int32) : Option (Int32) :=
  if v0 < 0 then
  (some 0)
  else
  (if 12 ≤ v0 then
    (some 0)
    else
    (some 1))
abbrev rmK0_isNode : Room := { frames := 0, cells := 0, slots := 0, locals := 0 }
set_option maxHeartbeats 4000000 in
set_option maxRecDepth 100000 in
theorem kK0_isNode (l : Launch) (D : va_G) (cI cZ cB cC : ClassId) (sz : Nat) (v0 : Int32) (r0 : Int32) (hm : mK0_isNode v0 = some r0) : Met l yK0_isNode wsK0_isNode rmK0_isNode (va_Pc [.int v0] (Pr D (tyL cI cZ cB cC) sz [])) (QI D (va_A [] sz) r0 []) 0 0 (va_A [] sz) := by
  refine Met.ofW (cc := cK0_isNode) (maxL := 1) (ret := (some .boolean)) (by decide) rfl ?_
  intro p e s m args below meth c s₁ B hml hv
  obtain ⟨rfl, hsz, hP, hK, hD0, hN⟩ := hv
  have hx := B.exec
  have hb := B.bytes
  have hr := B.returns
  have hts := htsA (atoms_spec (ws := wsK0_isNode) B.pre)
  have hown : s.vm.findClass RK0 = some m.cls := findClass_of_methodNamed B.named
  have hlocks := B.notSynchronized
  subst hsz
  have hD := hD0.self (sz := s.heap.size)
  generalize hAe : va_A [] s.heap.size = A at hD ⊢
  have hA : ∀ q : Nat, s.heap.size ≤ q → A q := fun q h => by rw [← hAe]; exact Or.inr h
  refine kstart (A := A) hP (fun H hP hS => ?_)
  have hl := lv_entry ([.int v0]) (n := 1) (Nat.le_of_ble_eq_true rfl)
  rw [lg_entry_eq]
  generalize (lg_sl ([.int v0]) ++ List.replicate (1 - (lg_sl ([.int v0])).length) Slot.unset).toArray = ls at hl ⊢
  have hl : lv_has ls 1 [(0, .int v0)] := hl
  unfold mK0_isNode at hm
  refine lv_iload_n hx hb dK0_isNode_0 rfl (lv_at hl 0 rfl) ?_
  refine lv_if_lt (tgt := 14) hx hb dK0_isNode_1 (by decide) (fun hc => ?_) (fun hc => ?_)
  · replace hm := ift hm hc
    refine lv_iconst (v := 0) hx hb dK0_isNode_14 (by decide) ?_
    replace hm := Option.some.inj hm
    subst hm
    exact k_retz hx hb hr hlocks rfl hP hD hS dK0_isNode_15
  · replace hm := iff_ hm hc
    refine lv_iload_n hx hb dK0_isNode_4 rfl (lv_at hl 0 rfl) ?_
    refine lv_bipush (v := 12) hx hb dK0_isNode_5 (by decide) ?_
    refine lv_icmp_ge (tgt := 14) hx hb dK0_isNode_7 (by decide) (fun hc => ?_) (fun hc => ?_)
    · replace hm := ift hm hc
      refine lv_iconst (v := 0) hx hb dK0_isNode_14 (by decide) ?_
      replace hm := Option.some.inj hm
      subst hm
      exact k_retz hx hb hr hlocks rfl hP hD hS dK0_isNode_15
    · replace hm := iff_ hm hc
      refine lv_iconst (v := 1) hx hb dK0_isNode_10 (by decide) ?_
      refine lv_goto (tgt := 15) hx hb dK0_isNode_11 (by decide) ?_
      replace hm := Option.some.inj hm
      subst hm
      exact k_retz hx hb hr hlocks rfl hP hD hS dK0_isNode_15
def mK0_isPredicate (v0 : Int32) : Option (Int32) :=
  if v0 < 0 then
  (some 0)
  else
  (if 6 ≤ v0 then
    (some 0)
    else
    (some 1))
abbrev rmK0_isPredicate : Room := { frames := 0, cells := 0, slots := 0, locals := 0 }
set_option maxHeartbeats 4000000 in
set_option maxRecDepth 100000 in
theorem kK0_isPredicate (l : Launch) (D : va_G) (cI cZ cB cC : ClassId) (sz : Nat) (v0 : Int32) (r0 : Int32) (hm : mK0_isPredicate v0 = some r0) : Met l yK0_isPredicate wsK0_isPredicate rmK0_isPredicate (va_Pc [.int v0] (Pr D (tyL cI cZ cB cC) sz [])) (QI D (va_A [] sz) r0 []) 0 0 (va_A [] sz) := by
  refine Met.ofW (cc := cK0_isPredicate) (maxL := 1) (ret := (some .boolean)) (by decide) rfl ?_
  intro p e s m args below meth c s₁ B hml hv
  obtain ⟨rfl, hsz, hP, hK, hD0, hN⟩ := hv
  have hx := B.exec
  have hb := B.bytes
  have hr := B.returns
  have hts := htsA (atoms_spec (ws := wsK0_isPredicate) B.pre)
  have hown : s.vm.findClass RK0 = some m.cls := findClass_of_methodNamed B.named
  have hlocks := B.notSynchronized
  subst hsz
  have hD := hD0.self (sz := s.heap.size)
  generalize hAe : va_A [] s.heap.size = A at hD ⊢
  have hA : ∀ q : Nat, s.heap.size ≤ q → A q := fun q h => by rw [← hAe]; exact Or.inr h
  refine kstart (A := A) hP (fun H hP hS => ?_)
  have hl := lv_entry ([.int v0]) (n := 1) (Nat.le_of_ble_eq_true rfl)
  rw [lg_entry_eq]
  generalize (lg_sl ([.int v0]) ++ List.replicate (1 - (lg_sl ([.int v0])).length) Slot.unset).toArray = ls at hl ⊢
  have hl : lv_has ls 1 [(0, .int v0)] := hl
  unfold mK0_isPredicate at hm
  refine lv_iload_n hx hb dK0_isPredicate_0 rfl (lv_at hl 0 rfl) ?_
  refine lv_if_lt (tgt := 14) hx hb dK0_isPredicate_1 (by decide) (fun hc => ?_) (fun hc => ?_)
  · replace hm := ift hm hc
    refine lv_iconst (v := 0) hx hb dK0_isPredicate_14 (by decide) ?_
    replace hm := Option.some.inj hm
    subst hm
    exact k_retz hx hb hr hlocks rfl hP hD hS dK0_isPredicate_15
  · replace hm := iff_ hm hc
    refine lv_iload_n hx hb dK0_isPredicate_4 rfl (lv_at hl 0 rfl) ?_
    refine lv_bipush (v := 6) hx hb dK0_isPredicate_5 (by decide) ?_
    refine lv_icmp_ge (tgt := 14) hx hb dK0_isPredicate_7 (by decide) (fun hc => ?_) (fun hc => ?_)
    · replace hm := ift hm hc
      refine lv_iconst (v := 0) hx hb dK0_isPredicate_14 (by decide) ?_
      replace hm := Option.some.inj hm
      subst hm
      exact k_retz hx hb hr hlocks rfl hP hD hS dK0_isPredicate_15
    · replace hm := iff_ hm hc
      refine lv_iconst (v := 1) hx hb dK0_isPredicate_10 (by decide) ?_
      refine lv_goto (tgt := 15) hx hb dK0_isPredicate_11 (by decide) ?_
      replace hm := Option.some.inj hm
      subst hm
      exact k_retz hx hb hr hlocks rfl hP hD hS dK0_isPredicate_15
def mK0_isTriple (v0 : Int32) (v1 : Int32) (v2 : Int32) : Option (Int32) :=
  bd1 (mK0_isNode v0) fun x1 => if x1 = 0 then
  (some 0)
  else
  (bd1 (mK0_isPredicate v1) fun x3 => if x3 = 0 then
    (some 0)
    else
    (bd1 (mK0_isNode v2) fun x5 => if x5 = 0 then
      (some 0)
      else
      (some 1)))
abbrev rmK0_isTriple : Room := { frames := 1, cells := 0, slots := 0, locals := 20 }
set_option maxHeartbeats 4000000 in
set_option maxRecDepth 100000 in
theorem kK0_isTriple (l : Launch) (D : va_G) (cI cZ cB cC : ClassId) (sz : Nat) (v0 : Int32) (v1 : Int32) (v2 : Int32) (r0 : Int32) (hm : mK0_isTriple v0 v1 v2 = some r0) : Met l yK0_isTriple wsK0_isTriple rmK0_isTriple (va_Pc [.int v0, .int v1, .int v2] (Pr D (tyL cI cZ cB cC) sz [])) (QI D (va_A [] sz) r0 []) 0 0 (va_A [] sz) := by
  refine Met.ofW (cc := cK0_isTriple) (maxL := 3) (ret := (some .boolean)) (by decide) rfl ?_
  intro p e s m args below meth c s₁ B hml hv
  obtain ⟨rfl, hsz, hP, hK, hD0, hN⟩ := hv
  have hx := B.exec
  have hb := B.bytes
  have hr := B.returns
  have hts := htsA (atoms_spec (ws := wsK0_isTriple) B.pre)
  have hown : s.vm.findClass RK0 = some m.cls := findClass_of_methodNamed B.named
  have hlocks := B.notSynchronized
  subst hsz
  have hD := hD0.self (sz := s.heap.size)
  generalize hAe : va_A [] s.heap.size = A at hD ⊢
  have hA : ∀ q : Nat, s.heap.size ≤ q → A q := fun q h => by rw [← hAe]; exact Or.inr h
  refine kstart (A := A) hP (fun H hP hS => ?_)
  have hl := lv_entry ([.int v0, .int v1, .int v2]) (n := 3) (Nat.le_of_ble_eq_true rfl)
  rw [lg_entry_eq]
  generalize (lg_sl ([.int v0, .int v1, .int v2]) ++ List.replicate (3 - (lg_sl ([.int v0, .int v1, .int v2])).length) Slot.unset).toArray = ls at hl ⊢
  have hl : lv_has ls 3 [(0, .int v0), (1, .int v1), (2, .int v2)] := hl
  unfold mK0_isTriple at hm
  refine lv_iload_n hx hb dK0_isTriple_0 rfl (lv_at hl 0 rfl) ?_
  obtain ⟨x1, ec2, hm⟩ := bd1_s hm
  have hPc : va_P D vwCl [] H := va_P0
  have hDc : va_D A [] := va_D0
  refine k_calli0 (va_runS (As := [.int v0]) (rest := []) ⟨hx, hb, hml, hown, hts⟩ (kK0_isNode l D cI cZ cB cC H.size v0 x1 ec2) (va_cwS 1 hts (gdS wdt1_185 wdt1_186 wdt1_1 gkK0_isNode) rfl rfl rfl (by decide +kernel) ⟨Nat.le_of_ble_eq_true rfl, Nat.le_of_ble_eq_true rfl⟩) ⟨Pr_blind, fun U hU hW => ⟨rfl, Pr_at hK hN hPc hDc hU hW⟩⟩ rfl rfl hl.1 rfl (lv_room (Nat.le_of_ble_eq_true rfl)) dK0_isTriple_1 ⟨Nat.le_of_ble_eq_true rfl, Nat.le_of_ble_eq_true rfl⟩) hP hD hS hA (fun H locs hP hD hS => ?_)
  refine lv_if_eq (tgt := 25) hx hb dK0_isTriple_4 (by decide) (fun hc => ?_) (fun hc => ?_)
  · replace hm := ift hm hc
    refine lv_iconst (v := 0) hx hb dK0_isTriple_25 (by decide) ?_
    replace hm := Option.some.inj hm
    subst hm
    exact k_retz hx hb hr hlocks rfl hP hD hS dK0_isTriple_26
  · replace hm := iff_ hm hc
    refine lv_iload_n hx hb dK0_isTriple_7 rfl (lv_at hl 1 rfl) ?_
    obtain ⟨x3, ec4, hm⟩ := bd1_s hm
    have hPc : va_P D vwCl [] H := va_P0
    have hDc : va_D A [] := va_D0
    refine k_calli0 (va_runS (As := [.int v1]) (rest := []) ⟨hx, hb, hml, hown, hts⟩ (kK0_isPredicate l D cI cZ cB cC H.size v1 x3 ec4) (va_cwS 1 hts (gdS wdt1_188 wdt1_189 wdt1_1 gkK0_isPredicate) rfl rfl rfl (by decide +kernel) ⟨Nat.le_of_ble_eq_true rfl, Nat.le_of_ble_eq_true rfl⟩) ⟨Pr_blind, fun U hU hW => ⟨rfl, Pr_at hK hN hPc hDc hU hW⟩⟩ rfl rfl hl.1 rfl (lv_room (Nat.le_of_ble_eq_true rfl)) dK0_isTriple_8 ⟨Nat.le_of_ble_eq_true rfl, Nat.le_of_ble_eq_true rfl⟩) hP hD hS hA (fun H locs hP hD hS => ?_)
    refine lv_if_eq (tgt := 25) hx hb dK0_isTriple_11 (by decide) (fun hc => ?_) (fun hc => ?_)
    · replace hm := ift hm hc
      refine lv_iconst (v := 0) hx hb dK0_isTriple_25 (by decide) ?_
      replace hm := Option.some.inj hm
      subst hm
      exact k_retz hx hb hr hlocks rfl hP hD hS dK0_isTriple_26
    · replace hm := iff_ hm hc
      refine lv_iload_n hx hb dK0_isTriple_14 rfl (lv_at hl 2 rfl) ?_
      obtain ⟨x5, ec6, hm⟩ := bd1_s hm
      have hPc : va_P D vwCl [] H := va_P0
      have hDc : va_D A [] := va_D0
      refine k_calli0 (va_runS (As := [.int v2]) (rest := []) ⟨hx, hb, hml, hown, hts⟩ (kK0_isNode l D cI cZ cB cC H.size v2 x5 ec6) (va_cwS 1 hts (gdS wdt1_185 wdt1_186 wdt1_1 gkK0_isNode) rfl rfl rfl (by decide +kernel) ⟨Nat.le_of_ble_eq_true rfl, Nat.le_of_ble_eq_true rfl⟩) ⟨Pr_blind, fun U hU hW => ⟨rfl, Pr_at hK hN hPc hDc hU hW⟩⟩ rfl rfl hl.1 rfl (lv_room (Nat.le_of_ble_eq_true rfl)) dK0_isTriple_15 ⟨Nat.le_of_ble_eq_true rfl, Nat.le_of_ble_eq_true rfl⟩) hP hD hS hA (fun H locs hP hD hS => ?_)
      refine lv_if_eq (tgt := 25) hx hb dK0_isTriple_18 (by decide) (fun hc => ?_) (fun hc => ?_)
      · replace hm := ift hm hc
        refine lv_iconst (v := 0) hx hb dK0_isTriple_25 (by decide) ?_
        replace hm := Option.some.inj hm
        subst hm
        exact k_retz hx hb hr hlocks rfl hP hD hS dK0_isTriple_26
      · replace hm := iff_ hm hc
        refine lv_iconst (v := 1) hx hb dK0_isTriple_21 (by decide) ?_
        refine lv_goto (tgt := 26) hx hb dK0_isTriple_22 (by decide) ?_
        replace hm := Option.some.inj hm
        subst hm
        exact k_retz hx hb hr hlocks rfl hP hD hS dK0_isTriple_26
def mK1_objectsOf (tob : Nat → Int32) (v1 : Int32) (v2 : Int32) : Option (Int32) :=
  bd1 (rd tob 72 ((6 * v1) + v2)) fun x1 => some x1
abbrev rmK1_objectsOf : Room := { frames := 0, cells := 0, slots := 0, locals := 0 }
set_option maxHeartbeats 4000000 in
set_option maxRecDepth 100000 in
theorem kK1_objectsOf (l : Launch) (D : va_G) (cI cZ cB cC : ClassId) (sz : Nat) (ta : Nat) (ta1 : Nat) (ta2 : Nat) (ta3 : Nat) (tso : Int32) (tob : Nat → Int32) (tme : Nat → Int32) (twi : Nat → Int32) (v1 : Int32) (v2 : Int32) (r0 : Int32) (hm : mK1_objectsOf tob v1 v2 = some r0) : Met l yK1_objectsOf wsK1_objectsOf rmK1_objectsOf (va_Pc [.ref ta, .int v1, .int v2] (Pr D (tyL cI cZ cB cC) sz (wT ta ta1 ta2 ta3 cI cZ cB cC tso tob tme twi))) (QI D (va_A (wT ta ta1 ta2 ta3 cI cZ cB cC tso tob tme twi) sz) r0 (wT ta ta1 ta2 ta3 cI cZ cB cC tso tob tme twi)) 0 0 (va_A (wT ta ta1 ta2 ta3 cI cZ cB cC tso tob tme twi) sz) := by
  refine Met.ofW (cc := cK1_objectsOf) (maxL := 3) (ret := (some .int)) (by decide) rfl ?_
  intro p e s m args below meth c s₁ B hml hv
  obtain ⟨rfl, hsz, hP, hK, hD0, hN⟩ := hv
  have hx := B.exec
  have hb := B.bytes
  have hr := B.returns
  have hts := htsA (atoms_spec (ws := wsK1_objectsOf) B.pre)
  have hown : s.vm.findClass RK1 = some m.cls := findClass_of_methodNamed B.named
  have hlocks := B.notSynchronized
  subst hsz
  have hD := hD0.self (sz := s.heap.size)
  generalize hAe : va_A (wT ta ta1 ta2 ta3 cI cZ cB cC tso tob tme twi) s.heap.size = A at hD ⊢
  have hA : ∀ q : Nat, s.heap.size ≤ q → A q := fun q h => by rw [← hAe]; exact Or.inr h
  refine kstart (A := A) hP (fun H hP hS => ?_)
  have hl := lv_entry ([.ref ta, .int v1, .int v2]) (n := 3) (Nat.le_of_ble_eq_true rfl)
  rw [lg_entry_eq]
  generalize (lg_sl ([.ref ta, .int v1, .int v2]) ++ List.replicate (3 - (lg_sl ([.ref ta, .int v1, .int v2])).length) Slot.unset).toArray = ls at hl ⊢
  have hl : lv_has ls 3 [(0, .ref ta), (1, .int v1), (2, .int v2)] := hl
  unfold mK1_objectsOf at hm
  refine lv_aload_n hx hb dK1_objectsOf_0 rfl (lv_at hl 0 rfl) ?_
  refine va_get (D := D) (ci := 1) (v := .ref ta1) (C := RK1) (T := TK1) (N := 4) hx hb hts inK1 hown hK hP 0 rfl rfl 0 (by decide) (hts _ wdt1_32) (fun _ h9 => h9) rfl dK1_objectsOf_1 ?_
  refine lv_bipush (v := 6) hx hb dK1_objectsOf_4 (by decide) ?_
  refine lv_iload_n hx hb dK1_objectsOf_6 rfl (lv_at hl 1 rfl) ?_
  refine lv_imul hx hb dK1_objectsOf_7 ?_
  refine lv_iload_n hx hb dK1_objectsOf_8 rfl (lv_at hl 2 rfl) ?_
  refine lv_iadd hx hb dK1_objectsOf_9 ?_
  obtain ⟨x1, ex1, hm⟩ := bd1_s hm
  obtain ⟨hix1, ex1⟩ := rd_s ex1
  refine va_iald hx hb hK hP 1 0 rfl rfl hix1 dK1_objectsOf_10 ?_
  refine topi ex1 ?_
  replace hm := Option.some.inj hm
  subst hm
  exact k_reti hx hb hr hlocks hP hD hS dK1_objectsOf_11
def mK0_hasMember (v0 : Int32) (v1 : Int32) : Option (Int32) :=
  if ((v0 >>> (v1 &&& 31)) &&& 1) = 0 then
  (some 0)
  else
  (some 1)
abbrev rmK0_hasMember : Room := { frames := 0, cells := 0, slots := 0, locals := 0 }
set_option maxHeartbeats 4000000 in
set_option maxRecDepth 100000 in
theorem kK0_hasMember (l : Launch) (D : va_G) (cI cZ cB cC : ClassId) (sz : Nat) (v0 : Int32) (v1 : Int32) (r0 : Int32) (hm : mK0_hasMember v0 v1 = some r0) : Met l yK0_hasMember wsK0_hasMember rmK0_hasMember (va_Pc [.int v0, .int v1] (Pr D (tyL cI cZ cB cC) sz [])) (QI D (va_A [] sz) r0 []) 0 0 (va_A [] sz) := by
  refine Met.ofW (cc := cK0_hasMember) (maxL := 2) (ret := (some .boolean)) (by decide) rfl ?_
  intro p e s m args below meth c s₁ B hml hv
  obtain ⟨rfl, hsz, hP, hK, hD0, hN⟩ := hv
  have hx := B.exec
  have hb := B.bytes
  have hr := B.returns
  have hts := htsA (atoms_spec (ws := wsK0_hasMember) B.pre)
  have hown : s.vm.findClass RK0 = some m.cls := findClass_of_methodNamed B.named
  have hlocks := B.notSynchronized
  subst hsz
  have hD := hD0.self (sz := s.heap.size)
  generalize hAe : va_A [] s.heap.size = A at hD ⊢
  have hA : ∀ q : Nat, s.heap.size ≤ q → A q := fun q h => by rw [← hAe]; exact Or.inr h
  refine kstart (A := A) hP (fun H hP hS => ?_)
  have hl := lv_entry ([.int v0, .int v1]) (n := 2) (Nat.le_of_ble_eq_true rfl)
  rw [lg_entry_eq]
  generalize (lg_sl ([.int v0, .int v1]) ++ List.replicate (2 - (lg_sl ([.int v0, .int v1])).length) Slot.unset).toArray = ls at hl ⊢
  have hl : lv_has ls 2 [(0, .int v0), (1, .int v1)] := hl
  unfold mK0_hasMember at hm
  refine lv_iload_n hx hb dK0_hasMember_0 rfl (lv_at hl 0 rfl) ?_
  refine lv_iload_n hx hb dK0_hasMember_1 rfl (lv_at hl 1 rfl) ?_
  refine lv_ishr hx hb dK0_hasMember_2 ?_
  refine lv_iconst (v := 1) hx hb dK0_hasMember_3 (by decide) ?_
  refine lv_iand hx hb dK0_hasMember_4 ?_
  refine lv_if_eq (tgt := 12) hx hb dK0_hasMember_5 (by decide) (fun hc => ?_) (fun hc => ?_)
  · replace hm := ift hm hc
    refine lv_iconst (v := 0) hx hb dK0_hasMember_12 (by decide) ?_
    replace hm := Option.some.inj hm
    subst hm
    exact k_retz hx hb hr hlocks rfl hP hD hS dK0_hasMember_13
  · replace hm := iff_ hm hc
    refine lv_iconst (v := 1) hx hb dK0_hasMember_8 (by decide) ?_
    refine lv_goto (tgt := 13) hx hb dK0_hasMember_9 (by decide) ?_
    replace hm := Option.some.inj hm
    subst hm
    exact k_retz hx hb hr hlocks rfl hP hD hS dK0_hasMember_13
def mK1_has (tob : Nat → Int32) (v1 : Int32) (v2 : Int32) (v3 : Int32) : Option (Int32) :=
  bd1 (mK1_objectsOf tob v1 v2) fun x1 => bd1 (mK0_hasMember x1 v3) fun x3 => bd1 (bz x3) fun x5 => some x5
abbrev rmK1_has : Room := { frames := 1, cells := 0, slots := 0, locals := 22 }
set_option maxHeartbeats 4000000 in
set_option maxRecDepth 100000 in
theorem kK1_has (l : Launch) (D : va_G) (cI cZ cB cC : ClassId) (sz : Nat) (ta : Nat) (ta1 : Nat) (ta2 : Nat) (ta3 : Nat) (tso : Int32) (tob : Nat → Int32) (tme : Nat → Int32) (twi : Nat → Int32) (v1 : Int32) (v2 : Int32) (v3 : Int32) (r0 : Int32) (hm : mK1_has tob v1 v2 v3 = some r0) : Met l yK1_has wsK1_has rmK1_has (va_Pc [.ref ta, .int v1, .int v2, .int v3] (Pr D (tyL cI cZ cB cC) sz (wT ta ta1 ta2 ta3 cI cZ cB cC tso tob tme twi))) (QI D (va_A (wT ta ta1 ta2 ta3 cI cZ cB cC tso tob tme twi) sz) r0 (wT ta ta1 ta2 ta3 cI cZ cB cC tso tob tme twi)) 0 0 (va_A (wT ta ta1 ta2 ta3 cI cZ cB cC tso tob tme twi) sz) := by
  refine Met.ofW (cc := cK1_has) (maxL := 4) (ret := (some .boolean)) (by decide) rfl ?_
  intro p e s m args below meth c s₁ B hml hv
  obtain ⟨rfl, hsz, hP, hK, hD0, hN⟩ := hv
  have hx := B.exec
  have hb := B.bytes
  have hr := B.returns
  have hts := htsA (atoms_spec (ws := wsK1_has) B.pre)
  have hown : s.vm.findClass RK1 = some m.cls := findClass_of_methodNamed B.named
  have hlocks := B.notSynchronized
  subst hsz
  have hD := hD0.self (sz := s.heap.size)
  generalize hAe : va_A (wT ta ta1 ta2 ta3 cI cZ cB cC tso tob tme twi) s.heap.size = A at hD ⊢
  have hA : ∀ q : Nat, s.heap.size ≤ q → A q := fun q h => by rw [← hAe]; exact Or.inr h
  refine kstart (A := A) hP (fun H hP hS => ?_)
  have hl := lv_entry ([.ref ta, .int v1, .int v2, .int v3]) (n := 4) (Nat.le_of_ble_eq_true rfl)
  rw [lg_entry_eq]
  generalize (lg_sl ([.ref ta, .int v1, .int v2, .int v3]) ++ List.replicate (4 - (lg_sl ([.ref ta, .int v1, .int v2, .int v3])).length) Slot.unset).toArray = ls at hl ⊢
  have hl : lv_has ls 4 [(0, .ref ta), (1, .int v1), (2, .int v2), (3, .int v3)] := hl
  unfold mK1_has at hm
  refine lv_aload_n hx hb dK1_has_0 rfl (lv_at hl 0 rfl) ?_
  refine lv_iload_n hx hb dK1_has_1 rfl (lv_at hl 1 rfl) ?_
  refine lv_iload_n hx hb dK1_has_2 rfl (lv_at hl 2 rfl) ?_
  obtain ⟨x1, ec2, hm⟩ := bd1_s hm
  have hPc := hP.sub (ws' := (wT ta ta1 ta2 ta3 cI cZ cB cC tso tob tme twi)) [0, 1, 2, 3] rfl
  have hDc := hD.sub (ws' := (wT ta ta1 ta2 ta3 cI cZ cB cC tso tob tme twi)) [0, 1, 2, 3] (by decide) rfl
  refine k_calli (wr := []) (w1 := (wT ta ta1 ta2 ta3 cI cZ cB cC tso tob tme twi)) (ws' := (wT ta ta1 ta2 ta3 cI cZ cB cC tso tob tme twi)) (va_runV (As := [.int v1, .int v2]) (rest := []) ⟨hx, hb, hml, hown, hts⟩ (kK1_objectsOf l D cI cZ cB cC H.size ta ta1 ta2 ta3 tso tob tme twi v1 v2 x1 ec2) (cwV 2 hts (gdV wdt1_195 wdt1_196 wdt1_197 wdt1_2 gkK1_objectsOf) rfl rfl rfl (by decide +kernel) ⟨Nat.le_of_ble_eq_true rfl, Nat.le_of_ble_eq_true rfl⟩) ⟨Pr_blind, va_recv hK hPc (ci := 1) (q0 := 0) rfl rfl, fun U hU hW => ⟨rfl, Pr_at hK hN hPc hDc hU hW⟩⟩ rfl rfl hl.1 rfl (lv_room (Nat.le_of_ble_eq_true rfl)) dK1_has_3 ⟨Nat.le_of_ble_eq_true rfl, Nat.le_of_ble_eq_true rfl⟩) hP hD hS hA [0, 1, 2, 3] [] [0, 1, 2, 3] rfl rfl (by decide) (by decide) (by decide) rfl (fun H locs hP hD hS => ?_)
  refine lv_iload_n hx hb dK1_has_6 rfl (lv_at hl 3 rfl) ?_
  obtain ⟨x3, ec4, hm⟩ := bd1_s hm
  have hPc : va_P D vwCl [] H := va_P0
  have hDc : va_D A [] := va_D0
  refine k_calli0 (va_runSN (As := [.int x1, .int v3]) (rest := []) ⟨hx, hb, hml, hown, hts⟩ (kK0_hasMember l D cI cZ cB cC H.size x1 v3 x3 ec4) ⟨va_cnB 2 hts gkK0_hasMember rfl rfl rfl (nwM hN 7 rfl) (hts _ wdt1_1) (by decide +kernel) ⟨Nat.le_of_ble_eq_true rfl, Nat.le_of_ble_eq_true rfl⟩, (hts _ wdt1_200), trivial⟩ ⟨Pr_blind, fun U hU hW => ⟨rfl, Pr_at hK hN hPc hDc hU hW⟩⟩ rfl rfl hl.1 rfl (lv_room (Nat.le_of_ble_eq_true rfl)) dK1_has_7 ⟨Nat.le_of_ble_eq_true rfl, Nat.le_of_ble_eq_true rfl⟩) hP hD hS hA (fun H locs hP hD hS => ?_)
  obtain ⟨x5, ex5, hm⟩ := bd1_s hm
  obtain ⟨eex5, hzx5⟩ := bz_s ex5
  refine topi eex5 ?_
  replace hm := Option.some.inj hm
  subst hm
  exact k_retz hx hb hr hlocks (bz_n hzx5) hP hD hS dK1_has_10
def mK0_codeOf (v0 : Int32) (v1 : Int32) (v2 : Int32) : Option (Int32) :=
  some (((72 * v0) + (12 * v1)) + v2)
abbrev rmK0_codeOf : Room := { frames := 0, cells := 0, slots := 0, locals := 0 }
set_option maxHeartbeats 4000000 in
set_option maxRecDepth 100000 in
theorem kK0_codeOf (l : Launch) (D : va_G) (cI cZ cB cC : ClassId) (sz : Nat) (v0 : Int32) (v1 : Int32) (v2 : Int32) (r0 : Int32) (hm : mK0_codeOf v0 v1 v2 = some r0) : Met l yK0_codeOf wsK0_codeOf rmK0_codeOf (va_Pc [.int v0, .int v1, .int v2] (Pr D (tyL cI cZ cB cC) sz [])) (QI D (va_A [] sz) r0 []) 0 0 (va_A [] sz) := by
  refine Met.ofW (cc := cK0_codeOf) (maxL := 3) (ret := (some .int)) (by decide) rfl ?_
  intro p e s m args below meth c s₁ B hml hv
  obtain ⟨rfl, hsz, hP, hK, hD0, hN⟩ := hv
  have hx := B.exec
  have hb := B.bytes
  have hr := B.returns
  have hts := htsA (atoms_spec (ws := wsK0_codeOf) B.pre)
  have hown : s.vm.findClass RK0 = some m.cls := findClass_of_methodNamed B.named
  have hlocks := B.notSynchronized
  subst hsz
  have hD := hD0.self (sz := s.heap.size)
  generalize hAe : va_A [] s.heap.size = A at hD ⊢
  have hA : ∀ q : Nat, s.heap.size ≤ q → A q := fun q h => by rw [← hAe]; exact Or.inr h
  refine kstart (A := A) hP (fun H hP hS => ?_)
  have hl := lv_entry ([.int v0, .int v1, .int v2]) (n := 3) (Nat.le_of_ble_eq_true rfl)
  rw [lg_entry_eq]
  generalize (lg_sl ([.int v0, .int v1, .int v2]) ++ List.replicate (3 - (lg_sl ([.int v0, .int v1, .int v2])).length) Slot.unset).toArray = ls at hl ⊢
  have hl : lv_has ls 3 [(0, .int v0), (1, .int v1), (2, .int v2)] := hl
  unfold mK0_codeOf at hm
  refine lv_bipush (v := 72) hx hb dK0_codeOf_0 (by decide) ?_
  refine lv_iload_n hx hb dK0_codeOf_2 rfl (lv_at hl 0 rfl) ?_
  refine lv_imul hx hb dK0_codeOf_3 ?_
  refine lv_bipush (v := 12) hx hb dK0_codeOf_4 (by decide) ?_
  refine lv_iload_n hx hb dK0_codeOf_6 rfl (lv_at hl 1 rfl) ?_
  refine lv_imul hx hb dK0_codeOf_7 ?_
  refine lv_iadd hx hb dK0_codeOf_8 ?_
  refine lv_iload_n hx hb dK0_codeOf_9 rfl (lv_at hl 2 rfl) ?_
  refine lv_iadd hx hb dK0_codeOf_10 ?_
  replace hm := Option.some.inj hm
  subst hm
  exact k_reti hx hb hr hlocks hP hD hS dK0_codeOf_11
def mK1_alter_J45 (tso : Int32) (tob : Nat → Int32) (x1 : Int32) (s2j45 : Int32) : Option (Int32 × (Nat → Int32)) :=
  bd1 (wrt tob 72 x1 s2j45) fun x3 => bd1 (some (x1 - x1 / 6 * 6)) fun x4 => if x4 = 0 then
  (some (0, x3))
  else
  (if x4 = 1 then
    (some (0, x3))
    else
    (some (tso, x3)))
def mK1_alter (tso : Int32) (tob : Nat → Int32) (v1 : Int32) (v2 : Int32) : Option (Int32 × (Nat → Int32)) :=
  bd1 (some (v2 / 12)) fun x1 => bd1 (some (1 <<< ((v2 - v2 / 12 * 12) &&& 31))) fun x2 => if v1 = 0 then
  (bd1 (rd tob 72 x1) fun x5 => mK1_alter_J45 tso tob x1 (x5 &&& (x2 ^^^ ((-1)))))
  else
  (bd1 (rd tob 72 x1) fun x6 => mK1_alter_J45 tso tob x1 (x6 ||| x2))
abbrev rmK1_alter : Room := { frames := 0, cells := 0, slots := 0, locals := 0 }
set_option maxHeartbeats 4000000 in
set_option maxRecDepth 100000 in
theorem kK1_alter (l : Launch) (D : va_G) (cI cZ cB cC : ClassId) (sz : Nat) (ta : Nat) (ta1 : Nat) (ta2 : Nat) (ta3 : Nat) (tso : Int32) (tob : Nat → Int32) (tme : Nat → Int32) (twi : Nat → Int32) (v1 : Int32) (v2 : Int32) (tso_r : Int32) (tob_r : Nat → Int32) (hm : mK1_alter tso tob v1 v2 = some (tso_r, tob_r)) : Met l yK1_alter wsK1_alter rmK1_alter (va_Pc [.ref ta, .int v1, .int v2] (Pr D (tyL cI cZ cB cC) sz (wT ta ta1 ta2 ta3 cI cZ cB cC tso tob tme twi))) (QV D (va_A (wT ta ta1 ta2 ta3 cI cZ cB cC tso tob tme twi) sz) (wT ta ta1 ta2 ta3 cI cZ cB cC tso_r tob_r tme twi)) 0 0 (va_A (wT ta ta1 ta2 ta3 cI cZ cB cC tso tob tme twi) sz) := by
  refine Met.ofW (cc := cK1_alter) (maxL := 6) (ret := none) (by decide) rfl ?_
  intro p e s m args below meth c s₁ B hml hv
  obtain ⟨rfl, hsz, hP, hK, hD0, hN⟩ := hv
  have hx := B.exec
  have hb := B.bytes
  have hr := B.returns
  have hts := htsA (atoms_spec (ws := wsK1_alter) B.pre)
  have hown : s.vm.findClass RK1 = some m.cls := findClass_of_methodNamed B.named
  have hlocks := B.notSynchronized
  subst hsz
  have hD := hD0.self (sz := s.heap.size)
  generalize hAe : va_A (wT ta ta1 ta2 ta3 cI cZ cB cC tso tob tme twi) s.heap.size = A at hD ⊢
  have hA : ∀ q : Nat, s.heap.size ≤ q → A q := fun q h => by rw [← hAe]; exact Or.inr h
  refine kstart (A := A) hP (fun H hP hS => ?_)
  have hl := lv_entry ([.ref ta, .int v1, .int v2]) (n := 6) (Nat.le_of_ble_eq_true rfl)
  rw [lg_entry_eq]
  generalize (lg_sl ([.ref ta, .int v1, .int v2]) ++ List.replicate (6 - (lg_sl ([.ref ta, .int v1, .int v2])).length) Slot.unset).toArray = ls at hl ⊢
  have hl : lv_has ls 6 [(0, .ref ta), (1, .int v1), (2, .int v2)] := hl
  unfold mK1_alter at hm
  refine lv_iload_n hx hb dK1_alter_0 rfl (lv_at hl 2 rfl) ?_
  refine lv_bipush (v := 12) hx hb dK1_alter_1 (by decide) ?_
  refine lv_idiv hx hb dK1_alter_3 (by decide) ?_
  obtain ⟨x1, ex1, hm⟩ := bd1_s hm
  refine topi (Option.some.inj ex1) ?_
  refine lv_istore_n (lv' := [(3, .int x1), (0, .ref ta), (1, .int v1), (2, .int v2)]) hx hb dK1_alter_4 rfl hl (by decide) rfl (fun ls hl => ?_)
  refine lv_iconst (v := 1) hx hb dK1_alter_5 (by decide) ?_
  refine lv_iload_n hx hb dK1_alter_6 rfl (lv_at hl 3 rfl) ?_
  refine lv_bipush (v := 12) hx hb dK1_alter_7 (by decide) ?_
  refine lv_irem hx hb dK1_alter_9 (by decide) ?_
  refine lv_ishl hx hb dK1_alter_10 ?_
  obtain ⟨x2, ex2, hm⟩ := bd1_s hm
  refine topi (Option.some.inj ex2) ?_
  refine lv_istore (lv' := [(4, .int x2), (3, .int x1), (0, .ref ta), (1, .int v1), (2, .int v2)]) hx hb dK1_alter_11 hl (by decide) rfl (fun ls hl => ?_)
  refine lv_aload_n hx hb dK1_alter_13 rfl (lv_at hl 2 rfl) ?_
  refine va_get (D := D) (ci := 1) (v := .ref ta1) (C := RK1) (T := TK1) (N := 4) hx hb hts inK1 hown hK hP 0 rfl rfl 0 (by decide) (hts _ wdt1_32) (fun _ h9 => h9) rfl dK1_alter_14 ?_
  refine lv_iload_n hx hb dK1_alter_17 rfl (lv_at hl 1 rfl) ?_
  refine lv_iload_n hx hb dK1_alter_18 rfl (lv_at hl 3 rfl) ?_
  have jn45 : ∀ (s2j45 : Int32) (H : Heap) (locs : List Loc) (ls : Array Slot), mK1_alter_J45 tso tob x1 s2j45 = some (tso_r, tob_r) → va_P D vwCl (wT ta ta1 ta2 ta3 cI cZ cB cC tso tob tme twi) H → va_D A (wT ta ta1 ta2 ta3 cI cZ cB cC tso tob tme twi) → va_S A s.heap H locs → lv_has ls 6 [(0, .ref ta), (3, .int x1)] → W p l e (headSpec wsK1_alter rmK1_alter).room s m ([.ref ta, .int v1, .int v2] : List Value).toArray below meth c H locs 0 0 (MQ below (QV D A (wT ta ta1 ta2 ta3 cI cZ cB cC tso_r tob_r tme twi)) ([.ref ta, .int v1, .int v2] : List Value).toArray s 0 0 A) (F0 m 45 ls [.int s2j45, .int x1, .ref ta1]) := by
    intro s2j45 H locs ls hm hP hD hS hl
    unfold mK1_alter_J45 at hm
    obtain ⟨x3, ex3, hm⟩ := bd1_s hm
    obtain ⟨hix3, ex3⟩ := wrt_s ex3
    refine va_iast hx hb hK hP hD hS 1 0 rfl rfl hix3 dK1_alter_45 (fun H locs hP hD hS => ?_)
    rw [ex3] at hP hD
    have hP : va_P D vwCl (wT ta ta1 ta2 ta3 cI cZ cB cC tso x3 tme twi) H := hP
    have hD : va_D A (wT ta ta1 ta2 ta3 cI cZ cB cC tso x3 tme twi) := hD
    refine lv_iload_n hx hb dK1_alter_46 rfl (lv_at hl 1 rfl) ?_
    refine lv_bipush (v := 6) hx hb dK1_alter_47 (by decide) ?_
    refine lv_irem hx hb dK1_alter_49 (by decide) ?_
    obtain ⟨x4, ex4, hm⟩ := bd1_s hm
    refine topi (Option.some.inj ex4) ?_
    refine lv_istore (lv' := [(5, .int x4), (0, .ref ta), (3, .int x1)]) hx hb dK1_alter_50 hl (by decide) rfl (fun ls hl => ?_)
    refine lv_iload hx hb dK1_alter_52 (lv_at hl 0 rfl) ?_
    refine lv_if_eq (tgt := 63) hx hb dK1_alter_54 (by decide) (fun hc => ?_) (fun hc => ?_)
    · replace hm := ift hm hc
      refine lv_aload_n hx hb dK1_alter_63 rfl (lv_at hl 1 rfl) ?_
      refine lv_iconst (v := 0) hx hb dK1_alter_64 (by decide) ?_
      refine va_put (D := D) (ci := 1) (v := .int 0) (ty := .boolean) (C := RK1) (T := TK1) (N := 4) hx hb hts inK1 tyK1 tyK1_ok nmK1 hown hK hP hD hS 0 rfl rfl 3 (by decide) (hts _ wdt1_35) (fun _ h9 => h9) rfl (by decide +kernel) rfl rfl (Nat.le_of_ble_eq_true rfl) dK1_alter_65 (fun H locs hP hD hS => ?_)
      have hP : va_P D vwCl (wT ta ta1 ta2 ta3 cI cZ cB cC 0 x3 tme twi) H := hP
      have hD : va_D A (wT ta ta1 ta2 ta3 cI cZ cB cC 0 x3 tme twi) := hD
      replace hm := Option.some.inj hm
      simp only [Prod.mk.injEq] at hm
      obtain ⟨rfl, rfl⟩ := hm
      exact k_retv hx hb hr hlocks hP hD hS dK1_alter_68
    · replace hm := iff_ hm hc
      refine lv_iload hx hb dK1_alter_57 (lv_at hl 0 rfl) ?_
      refine lv_iconst (v := 1) hx hb dK1_alter_59 (by decide) ?_
      refine lv_icmp_ne (tgt := 68) hx hb dK1_alter_60 (by decide) (fun hc => ?_) (fun hc => ?_)
      · replace hm := iff_ hm hc
        replace hm := Option.some.inj hm
        simp only [Prod.mk.injEq] at hm
        obtain ⟨rfl, rfl⟩ := hm
        exact k_retv hx hb hr hlocks hP hD hS dK1_alter_68
      · replace hm := ift hm hc
        refine lv_aload_n hx hb dK1_alter_63 rfl (lv_at hl 1 rfl) ?_
        refine lv_iconst (v := 0) hx hb dK1_alter_64 (by decide) ?_
        refine va_put (D := D) (ci := 1) (v := .int 0) (ty := .boolean) (C := RK1) (T := TK1) (N := 4) hx hb hts inK1 tyK1 tyK1_ok nmK1 hown hK hP hD hS 0 rfl rfl 3 (by decide) (hts _ wdt1_35) (fun _ h9 => h9) rfl (by decide +kernel) rfl rfl (Nat.le_of_ble_eq_true rfl) dK1_alter_65 (fun H locs hP hD hS => ?_)
        have hP : va_P D vwCl (wT ta ta1 ta2 ta3 cI cZ cB cC 0 x3 tme twi) H := hP
        have hD : va_D A (wT ta ta1 ta2 ta3 cI cZ cB cC 0 x3 tme twi) := hD
        replace hm := Option.some.inj hm
        simp only [Prod.mk.injEq] at hm
        obtain ⟨rfl, rfl⟩ := hm
        exact k_retv hx hb hr hlocks hP hD hS dK1_alter_68
  refine lv_if_eq (tgt := 34) hx hb dK1_alter_19 (by decide) (fun hc => ?_) (fun hc => ?_)
  · replace hm := ift hm hc
    refine lv_aload_n hx hb dK1_alter_34 rfl (lv_at hl 2 rfl) ?_
    refine va_get (D := D) (ci := 1) (v := .ref ta1) (C := RK1) (T := TK1) (N := 4) hx hb hts inK1 hown hK hP 0 rfl rfl 0 (by decide) (hts _ wdt1_32) (fun _ h9 => h9) rfl dK1_alter_35 ?_
    refine lv_iload_n hx hb dK1_alter_38 rfl (lv_at hl 1 rfl) ?_
    obtain ⟨x5, ex5, hm⟩ := bd1_s hm
    obtain ⟨hix5, ex5⟩ := rd_s ex5
    refine va_iald hx hb hK hP 1 0 rfl rfl hix5 dK1_alter_39 ?_
    refine topi ex5 ?_
    refine lv_iload hx hb dK1_alter_40 (lv_at hl 0 rfl) ?_
    refine lv_iconst (v := (-1)) hx hb dK1_alter_42 (by decide) ?_
    refine lv_ixor hx hb dK1_alter_43 ?_
    refine lv_iand hx hb dK1_alter_44 ?_
    exact jn45 (x5 &&& (x2 ^^^ ((-1)))) _ _ _ hm hP hD hS (lv_sub hl [2, 1] rfl)
  · replace hm := iff_ hm hc
    refine lv_aload_n hx hb dK1_alter_22 rfl (lv_at hl 2 rfl) ?_
    refine va_get (D := D) (ci := 1) (v := .ref ta1) (C := RK1) (T := TK1) (N := 4) hx hb hts inK1 hown hK hP 0 rfl rfl 0 (by decide) (hts _ wdt1_32) (fun _ h9 => h9) rfl dK1_alter_23 ?_
    refine lv_iload_n hx hb dK1_alter_26 rfl (lv_at hl 1 rfl) ?_
    obtain ⟨x6, ex6, hm⟩ := bd1_s hm
    obtain ⟨hix6, ex6⟩ := rd_s ex6
    refine va_iald hx hb hK hP 1 0 rfl rfl hix6 dK1_alter_27 ?_
    refine topi ex6 ?_
    refine lv_iload hx hb dK1_alter_28 (lv_at hl 0 rfl) ?_
    refine lv_ior hx hb dK1_alter_30 ?_
    refine lv_goto (tgt := 45) hx hb dK1_alter_31 (by decide) ?_
    exact jn45 (x6 ||| x2) _ _ _ hm hP hD hS (lv_sub hl [2, 1] rfl)
def mJ6_fill_aIIV_A5 (afx5 : Nat → Int32) : Option ((Nat → Int32)) :=
  some afx5
def mJ6_fill_aIIV_B5 (v1 : Int32) (kx5 : (Nat → Int32) → (Option ((Nat → Int32)))) (rc5 : Int32 → (Nat → Int32) → (Option ((Nat → Int32)))) (i2l5 : Int32) (afl5 : Nat → Int32) : Option ((Nat → Int32)) :=
  if 12 ≤ i2l5 then
  (kx5 afl5)
  else
  (bd1 (wrt afl5 12 i2l5 v1) fun x1 => bd1 (some (i2l5 + 1)) fun x2 => rc5 x2 x1)
def mJ6_fill_aIIV_L5 (v1 : Int32) (kx5 : (Nat → Int32) → (Option ((Nat → Int32)))) : Nat → Int32 → (Nat → Int32) → (Option ((Nat → Int32)))
  | 0, _, _ => none
  | n + 1, i2l5, afl5 => mJ6_fill_aIIV_B5 v1 kx5 (mJ6_fill_aIIV_L5 v1 kx5 n) i2l5 afl5
def mJ6_fill_aIIV (af : Nat → Int32) (v1 : Int32) : Option ((Nat → Int32)) :=
  mJ6_fill_aIIV_L5 v1 (mJ6_fill_aIIV_A5) 5000 0 af
abbrev rmJ6_fill_aIIV : Room := { frames := 0, cells := 0, slots := 0, locals := 0 }
set_option maxHeartbeats 4000000 in
set_option maxRecDepth 100000 in
theorem kJ6_fill_aIIV (l : Launch) (D : va_G) (cI cZ cB cC : ClassId) (sz : Nat) (aa : Nat) (af : Nat → Int32) (v1 : Int32) (af_r : Nat → Int32) (hm : mJ6_fill_aIIV af v1 = some af_r) : Met l yJ6_fill_aIIV wsJ6_fill_aIIV rmJ6_fill_aIIV (va_Pc [.ref aa, .int v1] (Pr D (tyL cI cZ cB cC) sz (wA aa cI cZ cB cC af))) (QV D (va_A (wA aa cI cZ cB cC af) sz) (wA aa cI cZ cB cC af_r)) 0 0 (va_A (wA aa cI cZ cB cC af) sz) := by
  refine Met.ofW (cc := cJ6_fill_aIIV) (maxL := 4) (ret := none) (by decide) rfl ?_
  intro p e s m args below meth c s₁ B hml hv
  obtain ⟨rfl, hsz, hP, hK, hD0, hN⟩ := hv
  have hx := B.exec
  have hb := B.bytes
  have hr := B.returns
  have hts := htsA (atoms_spec (ws := wsJ6_fill_aIIV) B.pre)
  have hown : s.vm.findClass RJ6 = some m.cls := findClass_of_methodNamed B.named
  have hlocks := B.notSynchronized
  subst hsz
  have hD := hD0.self (sz := s.heap.size)
  generalize hAe : va_A (wA aa cI cZ cB cC af) s.heap.size = A at hD ⊢
  have hA : ∀ q : Nat, s.heap.size ≤ q → A q := fun q h => by rw [← hAe]; exact Or.inr h
  refine kstart (A := A) hP (fun H hP hS => ?_)
  have hl := lv_entry ([.ref aa, .int v1]) (n := 4) (Nat.le_of_ble_eq_true rfl)
  rw [lg_entry_eq]
  generalize (lg_sl ([.ref aa, .int v1]) ++ List.replicate (4 - (lg_sl ([.ref aa, .int v1])).length) Slot.unset).toArray = ls at hl ⊢
  have hl : lv_has ls 4 [(0, .ref aa), (1, .int v1)] := hl
  unfold mJ6_fill_aIIV at hm
  refine lv_iconst (v := 0) hx hb dJ6_fill_aIIV_0 (by decide) ?_
  refine lv_istore_n (lv' := [(2, .int 0), (0, .ref aa), (1, .int v1)]) hx hb dJ6_fill_aIIV_1 rfl hl (by decide) rfl (fun ls hl => ?_)
  refine lv_aload_n hx hb dJ6_fill_aIIV_2 rfl (lv_at hl 1 rfl) ?_
  refine va_alen hx hb hK hP 0 0 rfl rfl (v := 12) rfl dJ6_fill_aIIV_3 ?_
  refine lv_istore_n (lv' := [(3, .int 12), (2, .int 0), (0, .ref aa), (1, .int v1)]) hx hb dJ6_fill_aIIV_4 rfl hl (by decide) rfl (fun ls hl => ?_)
  have lx5 : ∀ (afx5 : Nat → Int32) (H : Heap) (locs : List Loc) (ls : Array Slot), mJ6_fill_aIIV_A5 afx5 = some af_r → va_P D vwCl (wA aa cI cZ cB cC afx5) H → va_D A (wA aa cI cZ cB cC afx5) → va_S A s.heap H locs → lv_has ls 4 [] → W p l e (headSpec wsJ6_fill_aIIV rmJ6_fill_aIIV).room s m ([.ref aa, .int v1] : List Value).toArray below meth c H locs 0 0 (MQ below (QV D A (wA aa cI cZ cB cC af_r)) ([.ref aa, .int v1] : List Value).toArray s 0 0 A) (F0 m 20 ls []) := by
    intro afx5 H locs ls hm hP hD hS hl
    unfold mJ6_fill_aIIV_A5 at hm
    replace hm := Option.some.inj hm
    subst hm
    exact k_retv hx hb hr hlocks hP hD hS dJ6_fill_aIIV_20
  have lp5 : ∀ (n5 : Nat) (i2l5 : Int32) (afl5 : Nat → Int32) (H : Heap) (locs : List Loc) (ls : Array Slot), mJ6_fill_aIIV_L5 v1 (mJ6_fill_aIIV_A5) n5 i2l5 afl5 = some af_r → va_P D vwCl (wA aa cI cZ cB cC afl5) H → va_D A (wA aa cI cZ cB cC afl5) → va_S A s.heap H locs → lv_has ls 4 [(3, .int 12), (2, .int i2l5), (0, .ref aa), (1, .int v1)] → W p l e (headSpec wsJ6_fill_aIIV rmJ6_fill_aIIV).room s m ([.ref aa, .int v1] : List Value).toArray below meth c H locs 0 0 (MQ below (QV D A (wA aa cI cZ cB cC af_r)) ([.ref aa, .int v1] : List Value).toArray s 0 0 A) (F0 m 5 ls []) := by
    intro n5
    induction n5 with
    | zero => intro i2l5 afl5 H locs ls hm; exact nomatch (show none = _ from hm)
    | succ n5 ih5 =>
      intro i2l5 afl5 H locs ls hm hP hD hS hl
      replace hm : mJ6_fill_aIIV_B5 v1 (mJ6_fill_aIIV_A5) (mJ6_fill_aIIV_L5 v1 (mJ6_fill_aIIV_A5) n5) i2l5 afl5 = some af_r := hm
      unfold mJ6_fill_aIIV_B5 at hm
      refine lv_iload_n hx hb dJ6_fill_aIIV_5 rfl (lv_at hl 1 rfl) ?_
      refine lv_iload_n hx hb dJ6_fill_aIIV_6 rfl (lv_at hl 0 rfl) ?_
      refine lv_icmp_ge (tgt := 20) hx hb dJ6_fill_aIIV_7 (by decide) (fun hc => ?_) (fun hc => ?_)
      · replace hm := ift hm hc
        exact lx5 afl5 _ _ _ hm hP hD hS (lv_sub hl [] rfl)
      · replace hm := iff_ hm hc
        refine lv_aload_n hx hb dJ6_fill_aIIV_10 rfl (lv_at hl 2 rfl) ?_
        refine lv_iload_n hx hb dJ6_fill_aIIV_11 rfl (lv_at hl 1 rfl) ?_
        refine lv_iload_n hx hb dJ6_fill_aIIV_12 rfl (lv_at hl 3 rfl) ?_
        obtain ⟨x1, ex1, hm⟩ := bd1_s hm
        obtain ⟨hix1, ex1⟩ := wrt_s ex1
        refine va_iast hx hb hK hP hD hS 0 0 rfl rfl hix1 dJ6_fill_aIIV_13 (fun H locs hP hD hS => ?_)
        rw [ex1] at hP hD
        have hP : va_P D vwCl (wA aa cI cZ cB cC x1) H := hP
        have hD : va_D A (wA aa cI cZ cB cC x1) := hD
        obtain ⟨x2, ex2, hm⟩ := bd1_s hm
        refine lv_iinc (v := x2) (lv' := [(2, .int x2), (3, .int 12), (0, .ref aa), (1, .int v1)]) hx hb dJ6_fill_aIIV_14 hl (k := 1) rfl (by rw [← Option.some.inj ex2]; rfl) (by decide) rfl (fun ls hl => ?_)
        refine lv_goto (tgt := 5) hx hb dJ6_fill_aIIV_17 (by decide) ?_
        exact ih5 x2 x1 _ _ _ hm hP hD hS (lv_sub hl [1, 0, 2, 3] rfl)
  exact lp5 5000 0 af _ _ _ hm hP hD hS (lv_sub hl [0, 1, 2, 3] rfl)
def mJ2_numberOfTrailingZeros_J62 (i0j62 : Int32) (i1j62 : Int32) : Option (Int32) :=
  if i0j62 ≤ 4 then
  (some (i1j62 + (ush i0j62 1)))
  else
  (bd1 (some (i1j62 + 2)) fun x2 => bd1 (some (ush i0j62 2)) fun x3 => some (x2 + (ush x3 1)))
def mJ2_numberOfTrailingZeros_J49 (i0j49 : Int32) (i1j49 : Int32) : Option (Int32) :=
  if i0j49 ≤ 16 then
  (mJ2_numberOfTrailingZeros_J62 i0j49 i1j49)
  else
  (bd1 (some (i1j49 + 4)) fun x4 => bd1 (some (ush i0j49 4)) fun x5 => mJ2_numberOfTrailingZeros_J62 x5 x4)
def mJ2_numberOfTrailingZeros_J34 (i0j34 : Int32) (i1j34 : Int32) : Option (Int32) :=
  if i0j34 ≤ 256 then
  (mJ2_numberOfTrailingZeros_J49 i0j34 i1j34)
  else
  (bd1 (some (i1j34 + 8)) fun x6 => bd1 (some (ush i0j34 8)) fun x7 => mJ2_numberOfTrailingZeros_J49 x7 x6)
def mJ2_numberOfTrailingZeros (v0 : Int32) : Option (Int32) :=
  bd1 (some ((v0 ^^^ ((-1))) &&& (v0 - 1))) fun x1 => if 0 < x1 then
  (if x1 ≤ 65536 then
    (mJ2_numberOfTrailingZeros_J34 x1 1)
    else
    (bd1 (some (1 + 16)) fun x8 => bd1 (some (ush x1 16)) fun x9 => mJ2_numberOfTrailingZeros_J34 x9 x8))
  else
  (some (x1 &&& 32))
abbrev rmJ2_numberOfTrailingZeros : Room := { frames := 0, cells := 0, slots := 0, locals := 0 }
set_option maxHeartbeats 4000000 in
set_option maxRecDepth 100000 in
theorem kJ2_numberOfTrailingZeros (l : Launch) (D : va_G) (cI cZ cB cC : ClassId) (sz : Nat) (v0 : Int32) (r0 : Int32) (hm : mJ2_numberOfTrailingZeros v0 = some r0) : Met l yJ2_numberOfTrailingZeros wsJ2_numberOfTrailingZeros rmJ2_numberOfTrailingZeros (va_Pc [.int v0] (Pr D (tyL cI cZ cB cC) sz [])) (QI D (va_A [] sz) r0 []) 0 0 (va_A [] sz) := by
  refine Met.ofW (cc := cJ2_numberOfTrailingZeros) (maxL := 2) (ret := (some .int)) (by decide) rfl ?_
  intro p e s m args below meth c s₁ B hml hv
  obtain ⟨rfl, hsz, hP, hK, hD0, hN⟩ := hv
  have hx := B.exec
  have hb := B.bytes
  have hr := B.returns
  have hts := htsA (atoms_spec (ws := wsJ2_numberOfTrailingZeros) B.pre)
  have hown : s.vm.findClass RJ2 = some m.cls := findClass_of_methodNamed B.named
  have hlocks := B.notSynchronized
  subst hsz
  have hD := hD0.self (sz := s.heap.size)
  generalize hAe : va_A [] s.heap.size = A at hD ⊢
  have hA : ∀ q : Nat, s.heap.size ≤ q → A q := fun q h => by rw [← hAe]; exact Or.inr h
  refine kstart (A := A) hP (fun H hP hS => ?_)
  have hl := lv_entry ([.int v0]) (n := 2) (Nat.le_of_ble_eq_true rfl)
  rw [lg_entry_eq]
  generalize (lg_sl ([.int v0]) ++ List.replicate (2 - (lg_sl ([.int v0])).length) Slot.unset).toArray = ls at hl ⊢
  have hl : lv_has ls 2 [(0, .int v0)] := hl
  unfold mJ2_numberOfTrailingZeros at hm
  refine lv_iload_n hx hb dJ2_numberOfTrailingZeros_0 rfl (lv_at hl 0 rfl) ?_
  refine lv_iconst (v := (-1)) hx hb dJ2_numberOfTrailingZeros_1 (by decide) ?_
  refine lv_ixor hx hb dJ2_numberOfTrailingZeros_2 ?_
  refine lv_iload_n hx hb dJ2_numberOfTrailingZeros_3 rfl (lv_at hl 0 rfl) ?_
  refine lv_iconst (v := 1) hx hb dJ2_numberOfTrailingZeros_4 (by decide) ?_
  refine lv_isub hx hb dJ2_numberOfTrailingZeros_5 ?_
  refine lv_iand hx hb dJ2_numberOfTrailingZeros_6 ?_
  obtain ⟨x1, ex1, hm⟩ := bd1_s hm
  refine topi (Option.some.inj ex1) ?_
  refine lv_istore_n (lv' := [(0, .int x1)]) hx hb dJ2_numberOfTrailingZeros_7 rfl hl (by decide) rfl (fun ls hl => ?_)
  refine lv_iload_n hx hb dJ2_numberOfTrailingZeros_8 rfl (lv_at hl 0 rfl) ?_
  refine lv_if_gt (tgt := 17) hx hb dJ2_numberOfTrailingZeros_9 (by decide) (fun hc => ?_) (fun hc => ?_)
  · replace hm := ift hm hc
    refine lv_iconst (v := 1) hx hb dJ2_numberOfTrailingZeros_17 (by decide) ?_
    refine lv_istore_n (lv' := [(1, .int 1), (0, .int x1)]) hx hb dJ2_numberOfTrailingZeros_18 rfl hl (by decide) rfl (fun ls hl => ?_)
    refine lv_iload_n hx hb dJ2_numberOfTrailingZeros_19 rfl (lv_at hl 1 rfl) ?_
    refine lv_ldcw (v := 65536) hx hb hown (hts _ wdt1_226) dJ2_numberOfTrailingZeros_20 ?_
    have jn34 : ∀ (i0j34 : Int32) (i1j34 : Int32) (H : Heap) (locs : List Loc) (ls : Array Slot), mJ2_numberOfTrailingZeros_J34 i0j34 i1j34 = some r0 → va_P D vwCl [] H → va_D A [] → va_S A s.heap H locs → lv_has ls 2 [(0, .int i0j34), (1, .int i1j34)] → W p l e (headSpec wsJ2_numberOfTrailingZeros rmJ2_numberOfTrailingZeros).room s m ([.int v0] : List Value).toArray below meth c H locs 0 0 (MQ below (QI D A r0 []) ([.int v0] : List Value).toArray s 0 0 A) (F0 m 34 ls []) := by
      intro i0j34 i1j34 H locs ls hm hP hD hS hl
      unfold mJ2_numberOfTrailingZeros_J34 at hm
      refine lv_iload_n hx hb dJ2_numberOfTrailingZeros_34 rfl (lv_at hl 0 rfl) ?_
      refine lv_sipush (v := 256) hx hb dJ2_numberOfTrailingZeros_35 (by decide) ?_
      have jn49 : ∀ (i0j49 : Int32) (i1j49 : Int32) (H : Heap) (locs : List Loc) (ls : Array Slot), mJ2_numberOfTrailingZeros_J49 i0j49 i1j49 = some r0 → va_P D vwCl [] H → va_D A [] → va_S A s.heap H locs → lv_has ls 2 [(0, .int i0j49), (1, .int i1j49)] → W p l e (headSpec wsJ2_numberOfTrailingZeros rmJ2_numberOfTrailingZeros).room s m ([.int v0] : List Value).toArray below meth c H locs 0 0 (MQ below (QI D A r0 []) ([.int v0] : List Value).toArray s 0 0 A) (F0 m 49 ls []) := by
        intro i0j49 i1j49 H locs ls hm hP hD hS hl
        unfold mJ2_numberOfTrailingZeros_J49 at hm
        refine lv_iload_n hx hb dJ2_numberOfTrailingZeros_49 rfl (lv_at hl 0 rfl) ?_
        refine lv_bipush (v := 16) hx hb dJ2_numberOfTrailingZeros_50 (by decide) ?_
        have jn62 : ∀ (i0j62 : Int32) (i1j62 : Int32) (H : Heap) (locs : List Loc) (ls : Array Slot), mJ2_numberOfTrailingZeros_J62 i0j62 i1j62 = some r0 → va_P D vwCl [] H → va_D A [] → va_S A s.heap H locs → lv_has ls 2 [(0, .int i0j62), (1, .int i1j62)] → W p l e (headSpec wsJ2_numberOfTrailingZeros rmJ2_numberOfTrailingZeros).room s m ([.int v0] : List Value).toArray below meth c H locs 0 0 (MQ below (QI D A r0 []) ([.int v0] : List Value).toArray s 0 0 A) (F0 m 62 ls []) := by
          intro i0j62 i1j62 H locs ls hm hP hD hS hl
          unfold mJ2_numberOfTrailingZeros_J62 at hm
          refine lv_iload_n hx hb dJ2_numberOfTrailingZeros_62 rfl (lv_at hl 0 rfl) ?_
          refine lv_iconst (v := 4) hx hb dJ2_numberOfTrailingZeros_63 (by decide) ?_
          refine lv_icmp_le (tgt := 74) hx hb dJ2_numberOfTrailingZeros_64 (by decide) (fun hc => ?_) (fun hc => ?_)
          · replace hm := ift hm hc
            refine lv_iload_n hx hb dJ2_numberOfTrailingZeros_74 rfl (lv_at hl 1 rfl) ?_
            refine lv_iload_n hx hb dJ2_numberOfTrailingZeros_75 rfl (lv_at hl 0 rfl) ?_
            refine lv_iconst (v := 1) hx hb dJ2_numberOfTrailingZeros_76 (by decide) ?_
            refine lv_iushr (v := ush i0j62 1) hx hb dJ2_numberOfTrailingZeros_77 rfl ?_
            refine lv_iadd hx hb dJ2_numberOfTrailingZeros_78 ?_
            replace hm := Option.some.inj hm
            subst hm
            exact k_reti hx hb hr hlocks hP hD hS dJ2_numberOfTrailingZeros_79
          · replace hm := iff_ hm hc
            obtain ⟨x2, ex2, hm⟩ := bd1_s hm
            refine lv_iinc (v := x2) (lv' := [(1, .int x2), (0, .int i0j62)]) hx hb dJ2_numberOfTrailingZeros_67 hl (k := 1) rfl (by rw [← Option.some.inj ex2]; rfl) (by decide) rfl (fun ls hl => ?_)
            refine lv_iload_n hx hb dJ2_numberOfTrailingZeros_70 rfl (lv_at hl 1 rfl) ?_
            refine lv_iconst (v := 2) hx hb dJ2_numberOfTrailingZeros_71 (by decide) ?_
            refine lv_iushr (v := ush i0j62 2) hx hb dJ2_numberOfTrailingZeros_72 rfl ?_
            obtain ⟨x3, ex3, hm⟩ := bd1_s hm
            refine topi (Option.some.inj ex3) ?_
            refine lv_istore_n (lv' := [(0, .int x3), (1, .int x2)]) hx hb dJ2_numberOfTrailingZeros_73 rfl hl (by decide) rfl (fun ls hl => ?_)
            refine lv_iload_n hx hb dJ2_numberOfTrailingZeros_74 rfl (lv_at hl 1 rfl) ?_
            refine lv_iload_n hx hb dJ2_numberOfTrailingZeros_75 rfl (lv_at hl 0 rfl) ?_
            refine lv_iconst (v := 1) hx hb dJ2_numberOfTrailingZeros_76 (by decide) ?_
            refine lv_iushr (v := ush x3 1) hx hb dJ2_numberOfTrailingZeros_77 rfl ?_
            refine lv_iadd hx hb dJ2_numberOfTrailingZeros_78 ?_
            replace hm := Option.some.inj hm
            subst hm
            exact k_reti hx hb hr hlocks hP hD hS dJ2_numberOfTrailingZeros_79
        refine lv_icmp_le (tgt := 62) hx hb dJ2_numberOfTrailingZeros_52 (by decide) (fun hc => ?_) (fun hc => ?_)
        · replace hm := ift hm hc
          exact jn62 i0j49 i1j49 _ _ _ hm hP hD hS (lv_sub hl [0, 1] rfl)
        · replace hm := iff_ hm hc
          obtain ⟨x4, ex4, hm⟩ := bd1_s hm
          refine lv_iinc (v := x4) (lv' := [(1, .int x4), (0, .int i0j49)]) hx hb dJ2_numberOfTrailingZeros_55 hl (k := 1) rfl (by rw [← Option.some.inj ex4]; rfl) (by decide) rfl (fun ls hl => ?_)
          refine lv_iload_n hx hb dJ2_numberOfTrailingZeros_58 rfl (lv_at hl 1 rfl) ?_
          refine lv_iconst (v := 4) hx hb dJ2_numberOfTrailingZeros_59 (by decide) ?_
          refine lv_iushr (v := ush i0j49 4) hx hb dJ2_numberOfTrailingZeros_60 rfl ?_
          obtain ⟨x5, ex5, hm⟩ := bd1_s hm
          refine topi (Option.some.inj ex5) ?_
          refine lv_istore_n (lv' := [(0, .int x5), (1, .int x4)]) hx hb dJ2_numberOfTrailingZeros_61 rfl hl (by decide) rfl (fun ls hl => ?_)
          exact jn62 x5 x4 _ _ _ hm hP hD hS (lv_sub hl [0, 1] rfl)
      refine lv_icmp_le (tgt := 49) hx hb dJ2_numberOfTrailingZeros_38 (by decide) (fun hc => ?_) (fun hc => ?_)
      · replace hm := ift hm hc
        exact jn49 i0j34 i1j34 _ _ _ hm hP hD hS (lv_sub hl [0, 1] rfl)
      · replace hm := iff_ hm hc
        obtain ⟨x6, ex6, hm⟩ := bd1_s hm
        refine lv_iinc (v := x6) (lv' := [(1, .int x6), (0, .int i0j34)]) hx hb dJ2_numberOfTrailingZeros_41 hl (k := 1) rfl (by rw [← Option.some.inj ex6]; rfl) (by decide) rfl (fun ls hl => ?_)
        refine lv_iload_n hx hb dJ2_numberOfTrailingZeros_44 rfl (lv_at hl 1 rfl) ?_
        refine lv_bipush (v := 8) hx hb dJ2_numberOfTrailingZeros_45 (by decide) ?_
        refine lv_iushr (v := ush i0j34 8) hx hb dJ2_numberOfTrailingZeros_47 rfl ?_
        obtain ⟨x7, ex7, hm⟩ := bd1_s hm
        refine topi (Option.some.inj ex7) ?_
        refine lv_istore_n (lv' := [(0, .int x7), (1, .int x6)]) hx hb dJ2_numberOfTrailingZeros_48 rfl hl (by decide) rfl (fun ls hl => ?_)
        exact jn49 x7 x6 _ _ _ hm hP hD hS (lv_sub hl [0, 1] rfl)
    refine lv_icmp_le (tgt := 34) hx hb dJ2_numberOfTrailingZeros_23 (by decide) (fun hc => ?_) (fun hc => ?_)
    · replace hm := ift hm hc
      exact jn34 x1 1 _ _ _ hm hP hD hS (lv_sub hl [1, 0] rfl)
    · replace hm := iff_ hm hc
      obtain ⟨x8, ex8, hm⟩ := bd1_s hm
      refine lv_iinc (v := x8) (lv' := [(1, .int x8), (0, .int x1)]) hx hb dJ2_numberOfTrailingZeros_26 hl (k := 0) rfl (by rw [← Option.some.inj ex8]; rfl) (by decide) rfl (fun ls hl => ?_)
      refine lv_iload_n hx hb dJ2_numberOfTrailingZeros_29 rfl (lv_at hl 1 rfl) ?_
      refine lv_bipush (v := 16) hx hb dJ2_numberOfTrailingZeros_30 (by decide) ?_
      refine lv_iushr (v := ush x1 16) hx hb dJ2_numberOfTrailingZeros_32 rfl ?_
      obtain ⟨x9, ex9, hm⟩ := bd1_s hm
      refine topi (Option.some.inj ex9) ?_
      refine lv_istore_n (lv' := [(0, .int x9), (1, .int x8)]) hx hb dJ2_numberOfTrailingZeros_33 rfl hl (by decide) rfl (fun ls hl => ?_)
      exact jn34 x9 x8 _ _ _ hm hP hD hS (lv_sub hl [0, 1] rfl)
  · replace hm := iff_ hm hc
    refine lv_iload_n hx hb dJ2_numberOfTrailingZeros_12 rfl (lv_at hl 0 rfl) ?_
    refine lv_bipush (v := 32) hx hb dJ2_numberOfTrailingZeros_13 (by decide) ?_
    refine lv_iand hx hb dJ2_numberOfTrailingZeros_15 ?_
    replace hm := Option.some.inj hm
    subst hm
    exact k_reti hx hb hr hlocks hP hD hS dJ2_numberOfTrailingZeros_16
def mK1_least (v0 : Int32) : Option (Int32) :=
  bd1 (mJ2_numberOfTrailingZeros v0) fun x1 => some (imin x1 11)
abbrev rmK1_least : Room := { frames := 1, cells := 0, slots := 0, locals := 21 }
set_option maxHeartbeats 4000000 in
set_option maxRecDepth 100000 in
theorem kK1_least (l : Launch) (D : va_G) (cI cZ cB cC : ClassId) (sz : Nat) (v0 : Int32) (r0 : Int32) (hm : mK1_least v0 = some r0) : Met l yK1_least wsK1_least rmK1_least (va_Pc [.int v0] (Pr D (tyL cI cZ cB cC) sz [])) (QI D (va_A [] sz) r0 []) 0 0 (va_A [] sz) := by
  refine Met.ofW (cc := cK1_least) (maxL := 1) (ret := (some .int)) (by decide) rfl ?_
  intro p e s m args below meth c s₁ B hml hv
  obtain ⟨rfl, hsz, hP, hK, hD0, hN⟩ := hv
  have hx := B.exec
  have hb := B.bytes
  have hr := B.returns
  have hts := htsA (atoms_spec (ws := wsK1_least) B.pre)
  have hown : s.vm.findClass RK1 = some m.cls := findClass_of_methodNamed B.named
  have hlocks := B.notSynchronized
  subst hsz
  have hD := hD0.self (sz := s.heap.size)
  generalize hAe : va_A [] s.heap.size = A at hD ⊢
  have hA : ∀ q : Nat, s.heap.size ≤ q → A q := fun q h => by rw [← hAe]; exact Or.inr h
  refine kstart (A := A) hP (fun H hP hS => ?_)
  have hl := lv_entry ([.int v0]) (n := 1) (Nat.le_of_ble_eq_true rfl)
  rw [lg_entry_eq]
  generalize (lg_sl ([.int v0]) ++ List.replicate (1 - (lg_sl ([.int v0])).length) Slot.unset).toArray = ls at hl ⊢
  have hl : lv_has ls 1 [(0, .int v0)] := hl
  unfold mK1_least at hm
  refine lv_iload_n hx hb dK1_least_0 rfl (lv_at hl 0 rfl) ?_
  obtain ⟨x1, ec2, hm⟩ := bd1_s hm
  have hPc : va_P D vwCl [] H := va_P0
  have hDc : va_D A [] := va_D0
  refine k_calli0 (va_runS (As := [.int v0]) (rest := []) ⟨hx, hb, hml, hown, hts⟩ (kJ2_numberOfTrailingZeros l D cI cZ cB cC H.size v0 x1 ec2) (va_cwS 1 hts (gdS wdt1_223 wdt1_224 wdt1_12 gkJ2_numberOfTrailingZeros) rfl rfl rfl (by decide +kernel) ⟨Nat.le_of_ble_eq_true rfl, Nat.le_of_ble_eq_true rfl⟩) ⟨Pr_blind, fun U hU hW => ⟨rfl, Pr_at hK hN hPc hDc hU hW⟩⟩ rfl rfl hl.1 rfl (lv_room (Nat.le_of_ble_eq_true rfl)) dK1_least_1 ⟨Nat.le_of_ble_eq_true rfl, Nat.le_of_ble_eq_true rfl⟩) hP hD hS hA (fun H locs hP hD hS => ?_)
  refine lv_bipush (v := 11) hx hb dK1_least_4 (by decide) ?_
  refine va_mmin hx hb (by rw [hml]; exact hl.1.symm) hown (hts _ wdt1_227) (hts _ wdt1_228) (hts _ wdt1_13) (hts _ wdt1_229) (Nat.le_of_ble_eq_true rfl) (Nat.le_of_ble_eq_true rfl) (Nat.le_of_ble_eq_true rfl) (Nat.le_of_ble_eq_true rfl) dK1_least_6 ?_
  refine topi (y := imin x1 11) rfl ?_
  replace hm := Option.some.inj hm
  subst hm
  exact k_reti hx hb hr hlocks hP hD hS dK1_least_9
