abbrev rmK5_init : Room := { frames := 1, cells := 14, slots := 2271, locals := 20 }
set_option maxHeartbeats 4000000 in
set_option maxRecDepth 100000 in
theorem kK5_init (l : Launch) (D : va_G) (cI cZ cB cC : ClassId) (sz : Nat) (m_a : Nat) : Met l yK5_init wsK5_init rmK5_init (va_Pc [.ref m_a] (Pr D (tyL cI cZ cB cC) sz [(m_a, .inr (5, [.null, .null, .int 0, .null, .null, .null, .null, .int 0, .null, .null, .null, .int 0, .int 0, .int 0, .int 0, .null, .int 0, .int 0, .null, .null, .null, .null, .int 0]))])) (va_Qv (fun (_ : Nat × Nat × Nat × Nat × Nat × Nat × Nat × Nat × Nat × Nat × Nat × Nat × Nat × Nat) => True) (fun u t => Po D (va_A [(m_a, .inr (5, [.null, .null, .int 0, .null, .null, .null, .null, .int 0, .null, .null, .null, .int 0, .int 0, .int 0, .int 0, .null, .int 0, .int 0, .null, .null, .null, .null, .int 0]))] sz) (wX m_a u.1 u.2.1 u.2.2.1 u.2.2.2.1 u.2.2.2.2.1 u.2.2.2.2.2.1 u.2.2.2.2.2.2.1 u.2.2.2.2.2.2.2.1 u.2.2.2.2.2.2.2.2.1 u.2.2.2.2.2.2.2.2.2.1 u.2.2.2.2.2.2.2.2.2.2.1 u.2.2.2.2.2.2.2.2.2.2.2.1 u.2.2.2.2.2.2.2.2.2.2.2.2.1 u.2.2.2.2.2.2.2.2.2.2.2.2.2 cI cZ cB cC 0 0 500 0 0 0 0 0 0 (fun _ => 0) (fun _ => 0) (fun _ => 0) (fun _ => 0) (fun _ => 0) (fun _ => 0) (fun _ => 0) (fun _ => 0) (fun _ => 0) (fun _ => 0) (fun _ => 0) (fun _ => 0) (fun _ => 0) (fun _ => 0)) t) (va_A [(m_a, .inr (5, [.null, .null, .int 0, .null, .null, .null, .null, .int 0, .null, .null, .null, .int 0, .int 0, .int 0, .int 0, .null, .int 0, .int 0, .null, .null, .null, .null, .int 0]))] sz)) 14 2271 (va_A [(m_a, .inr (5, [.null, .null, .int 0, .null, .null, .null, .null, .int 0, .null, .null, .null, .int 0, .int 0, .int 0, .int 0, .null, .int 0, .int 0, .null, .null, .null, .null, .int 0]))] sz) := by
  refine Met.ofW (cc := cK5_init) (maxL := 1) (ret := none) (by decide) rfl ?_
  intro p e s m args below meth c s₁ B hml hv
  obtain ⟨rfl, hsz, hP, hK, hD0, hN⟩ := hv
  have hx := B.exec
  have hb := B.bytes
  have hr := B.returns
  have hts := htsA (atoms_spec (ws := wsK5_init) B.pre)
  have hown : s.vm.findClass RK5 = some m.cls := findClass_of_methodNamed B.named
  have hlocks := B.notSynchronized
  have hin : meth.name = "<init>" := (name_of_methodNamed B.named B.method).1
  subst hsz
  have hD := hD0.self (sz := s.heap.size)
  generalize hAe : va_A [(m_a, .inr (5, [.null, .null, .int 0, .null, .null, .null, .null, .int 0, .null, .null, .null, .int 0, .int 0, .int 0, .int 0, .null, .int 0, .int 0, .null, .null, .null, .null, .int 0]))] s.heap.size = A at hD ⊢
  have hA : ∀ q : Nat, s.heap.size ≤ q → A q := fun q h => by rw [← hAe]; exact Or.inr h
  refine kstart (A := A) hP (fun H hP hS => ?_)
  have hl := lv_entry ([.ref m_a]) (n := 1) (Nat.le_of_ble_eq_true rfl)
  rw [lg_entry_eq]
  generalize (lg_sl ([.ref m_a]) ++ List.replicate (1 - (lg_sl ([.ref m_a])).length) Slot.unset).toArray = ls at hl ⊢
  have hl : lv_has ls 1 [(0, .ref m_a)] := hl
  refine lv_aload_n hx hb dK5_init_0 rfl (lv_at hl 0 rfl) ?_
  refine W.objInit hx hb hown (hts _ wdt3_185) (hts _ wdt1_24) (hts _ wdt1_25) rfl (by rw [hml]; exact hl.1) rfl dK5_init_1 (Nat.le_of_ble_eq_true rfl) (Nat.le_of_ble_eq_true rfl) ?_
  refine W.eq (g2 := F0 m 4 ls []) rfl ?_
  refine lv_aload_n hx hb dK5_init_4 rfl (lv_at hl 0 rfl) ?_
  refine lv_sipush (v := 864) hx hb dK5_init_5 (by decide) ?_
  refine va_newa (atype := .boolean) (ty := .boolean) (N' := 864) (a0 := (864, .inl fun _ => 0)) hx hb (hts _ wdt1_93) rfl hK hP hD hS hA (fun _ => rfl) (by decide) (by decide) (by decide) (Nat.le_of_ble_eq_true rfl) (Nat.le_of_ble_eq_true rfl) dK5_init_8 (fun q1 cA H hK1 hP hD hS => ?_)
  obtain rfl := tyU hK1 1 (cI := cZ) rfl (by decide)
  have hP : va_P D vwCl [(m_a, .inr (5, [.null, .null, .int 0, .null, .null, .null, .null, .int 0, .null, .null, .null, .int 0, .int 0, .int 0, .int 0, .null, .int 0, .int 0, .null, .null, .null, .null, .int 0])), (q1, .inl (cZ, 864, .inl fun _ => 0))] H := hP
  have hD : va_D A [(m_a, .inr (5, [.null, .null, .int 0, .null, .null, .null, .null, .int 0, .null, .null, .null, .int 0, .int 0, .int 0, .int 0, .null, .int 0, .int 0, .null, .null, .null, .null, .int 0])), (q1, .inl (cZ, 864, .inl fun _ => 0))] := hD
  refine W.widen (k := 1) (n := 864) (by omega) (by omega) ?_
  refine va_putF (D := D) (ci := 5) (v := .ref q1) (ty := .array .boolean) (C := RK5) (T := TK5) (N := 23) hx hb hts inK5 tyK5 tyK5_ok nmK5 hown hK hP hD hS 0 rfl rfl 0 (by decide) (hts _ wdt3_186) (fun _ h9 => h9) rfl hin rfl (by decide +kernel) rfl rfl (Nat.le_of_ble_eq_true rfl) dK5_init_10 (fun H locs hP hD hS => ?_)
  have hP : va_P D vwCl [(m_a, .inr (5, [.ref q1, .null, .int 0, .null, .null, .null, .null, .int 0, .null, .null, .null, .int 0, .int 0, .int 0, .int 0, .null, .int 0, .int 0, .null, .null, .null, .null, .int 0])), (q1, .inl (cZ, 864, .inl fun _ => 0))] H := hP
  have hD : va_D A [(m_a, .inr (5, [.ref q1, .null, .int 0, .null, .null, .null, .null, .int 0, .null, .null, .null, .int 0, .int 0, .int 0, .int 0, .null, .int 0, .int 0, .null, .null, .null, .null, .int 0])), (q1, .inl (cZ, 864, .inl fun _ => 0))] := hD
  refine lv_aload_n hx hb dK5_init_13 rfl (lv_at hl 0 rfl) ?_
  refine lv_sipush (v := 864) hx hb dK5_init_14 (by decide) ?_
  refine va_newa (atype := .boolean) (ty := .boolean) (N' := 864) (a0 := (864, .inl fun _ => 0)) hx hb (hts _ wdt1_93) rfl hK hP hD hS hA (fun _ => rfl) (by decide) (by decide) (by decide) (Nat.le_of_ble_eq_true rfl) (Nat.le_of_ble_eq_true rfl) dK5_init_17 (fun q2 cA H hK1 hP hD hS => ?_)
  obtain rfl := tyU hK1 1 (cI := cZ) rfl (by decide)
  have hP : va_P D vwCl [(m_a, .inr (5, [.ref q1, .null, .int 0, .null, .null, .null, .null, .int 0, .null, .null, .null, .int 0, .int 0, .int 0, .int 0, .null, .int 0, .int 0, .null, .null, .null, .null, .int 0])), (q1, .inl (cZ, 864, .inl fun _ => 0)), (q2, .inl (cZ, 864, .inl fun _ => 0))] H := hP
  have hD : va_D A [(m_a, .inr (5, [.ref q1, .null, .int 0, .null, .null, .null, .null, .int 0, .null, .null, .null, .int 0, .int 0, .int 0, .int 0, .null, .int 0, .int 0, .null, .null, .null, .null, .int 0])), (q1, .inl (cZ, 864, .inl fun _ => 0)), (q2, .inl (cZ, 864, .inl fun _ => 0))] := hD
  refine W.widen (k := 2) (n := 1728) (by omega) (by omega) ?_
  refine va_putF (D := D) (ci := 5) (v := .ref q2) (ty := .array .boolean) (C := RK5) (T := TK5) (N := 23) hx hb hts inK5 tyK5 tyK5_ok nmK5 hown hK hP hD hS 0 rfl rfl 1 (by decide) (hts _ wdt3_187) (fun _ h9 => h9) rfl hin rfl (by decide +kernel) rfl rfl (Nat.le_of_ble_eq_true rfl) dK5_init_19 (fun H locs hP hD hS => ?_)
  have hP : va_P D vwCl [(m_a, .inr (5, [.ref q1, .ref q2, .int 0, .null, .null, .null, .null, .int 0, .null, .null, .null, .int 0, .int 0, .int 0, .int 0, .null, .int 0, .int 0, .null, .null, .null, .null, .int 0])), (q1, .inl (cZ, 864, .inl fun _ => 0)), (q2, .inl (cZ, 864, .inl fun _ => 0))] H := hP
  have hD : va_D A [(m_a, .inr (5, [.ref q1, .ref q2, .int 0, .null, .null, .null, .null, .int 0, .null, .null, .null, .int 0, .int 0, .int 0, .int 0, .null, .int 0, .int 0, .null, .null, .null, .null, .int 0])), (q1, .inl (cZ, 864, .inl fun _ => 0)), (q2, .inl (cZ, 864, .inl fun _ => 0))] := hD
  refine lv_aload_n hx hb dK5_init_22 rfl (lv_at hl 0 rfl) ?_
  refine lv_bipush (v := 10) hx hb dK5_init_23 (by decide) ?_
  refine va_newa (atype := .int) (ty := .int) (N' := 10) (a0 := (10, .inl fun _ => 0)) hx hb (hts _ wdt1_45) rfl hK hP hD hS hA (fun _ => rfl) (by decide) (by decide) (by decide) (Nat.le_of_ble_eq_true rfl) (Nat.le_of_ble_eq_true rfl) dK5_init_25 (fun q3 cA H hK1 hP hD hS => ?_)
  obtain rfl := tyU hK1 0 (cI := cI) rfl (by decide)
  have hP : va_P D vwCl [(m_a, .inr (5, [.ref q1, .ref q2, .int 0, .null, .null, .null, .null, .int 0, .null, .null, .null, .int 0, .int 0, .int 0, .int 0, .null, .int 0, .int 0, .null, .null, .null, .null, .int 0])), (q1, .inl (cZ, 864, .inl fun _ => 0)), (q2, .inl (cZ, 864, .inl fun _ => 0)), (q3, .inl (cI, 10, .inl fun _ => 0))] H := hP
  have hD : va_D A [(m_a, .inr (5, [.ref q1, .ref q2, .int 0, .null, .null, .null, .null, .int 0, .null, .null, .null, .int 0, .int 0, .int 0, .int 0, .null, .int 0, .int 0, .null, .null, .null, .null, .int 0])), (q1, .inl (cZ, 864, .inl fun _ => 0)), (q2, .inl (cZ, 864, .inl fun _ => 0)), (q3, .inl (cI, 10, .inl fun _ => 0))] := hD
  refine W.widen (k := 3) (n := 1738) (by omega) (by omega) ?_
  refine va_putF (D := D) (ci := 5) (v := .ref q3) (ty := .array .int) (C := RK5) (T := TK5) (N := 23) hx hb hts inK5 tyK5 tyK5_ok nmK5 hown hK hP hD hS 0 rfl rfl 3 (by decide) (hts _ wdt3_189) (fun _ h9 => h9) rfl hin rfl (by decide +kernel) rfl rfl (Nat.le_of_ble_eq_true rfl) dK5_init_27 (fun H locs hP hD hS => ?_)
  have hP : va_P D vwCl [(m_a, .inr (5, [.ref q1, .ref q2, .int 0, .ref q3, .null, .null, .null, .int 0, .null, .null, .null, .int 0, .int 0, .int 0, .int 0, .null, .int 0, .int 0, .null, .null, .null, .null, .int 0])), (q1, .inl (cZ, 864, .inl fun _ => 0)), (q2, .inl (cZ, 864, .inl fun _ => 0)), (q3, .inl (cI, 10, .inl fun _ => 0))] H := hP
  have hD : va_D A [(m_a, .inr (5, [.ref q1, .ref q2, .int 0, .ref q3, .null, .null, .null, .int 0, .null, .null, .null, .int 0, .int 0, .int 0, .int 0, .null, .int 0, .int 0, .null, .null, .null, .null, .int 0])), (q1, .inl (cZ, 864, .inl fun _ => 0)), (q2, .inl (cZ, 864, .inl fun _ => 0)), (q3, .inl (cI, 10, .inl fun _ => 0))] := hD
  refine lv_aload_n hx hb dK5_init_30 rfl (lv_at hl 0 rfl) ?_
  refine lv_bipush (v := 10) hx hb dK5_init_31 (by decide) ?_
  refine va_newa (atype := .int) (ty := .int) (N' := 10) (a0 := (10, .inl fun _ => 0)) hx hb (hts _ wdt1_45) rfl hK hP hD hS hA (fun _ => rfl) (by decide) (by decide) (by decide) (Nat.le_of_ble_eq_true rfl) (Nat.le_of_ble_eq_true rfl) dK5_init_33 (fun q4 cA H hK1 hP hD hS => ?_)
  obtain rfl := tyU hK1 0 (cI := cI) rfl (by decide)
  have hP : va_P D vwCl [(m_a, .inr (5, [.ref q1, .ref q2, .int 0, .ref q3, .null, .null, .null, .int 0, .null, .null, .null, .int 0, .int 0, .int 0, .int 0, .null, .int 0, .int 0, .null, .null, .null, .null, .int 0])), (q1, .inl (cZ, 864, .inl fun _ => 0)), (q2, .inl (cZ, 864, .inl fun _ => 0)), (q3, .inl (cI, 10, .inl fun _ => 0)), (q4, .inl (cI, 10, .inl fun _ => 0))] H := hP
  have hD : va_D A [(m_a, .inr (5, [.ref q1, .ref q2, .int 0, .ref q3, .null, .null, .null, .int 0, .null, .null, .null, .int 0, .int 0, .int 0, .int 0, .null, .int 0, .int 0, .null, .null, .null, .null, .int 0])), (q1, .inl (cZ, 864, .inl fun _ => 0)), (q2, .inl (cZ, 864, .inl fun _ => 0)), (q3, .inl (cI, 10, .inl fun _ => 0)), (q4, .inl (cI, 10, .inl fun _ => 0))] := hD
  refine W.widen (k := 4) (n := 1748) (by omega) (by omega) ?_
  refine va_putF (D := D) (ci := 5) (v := .ref q4) (ty := .array .int) (C := RK5) (T := TK5) (N := 23) hx hb hts inK5 tyK5 tyK5_ok nmK5 hown hK hP hD hS 0 rfl rfl 4 (by decide) (hts _ wdt3_190) (fun _ h9 => h9) rfl hin rfl (by decide +kernel) rfl rfl (Nat.le_of_ble_eq_true rfl) dK5_init_35 (fun H locs hP hD hS => ?_)
  have hP : va_P D vwCl [(m_a, .inr (5, [.ref q1, .ref q2, .int 0, .ref q3, .ref q4, .null, .null, .int 0, .null, .null, .null, .int 0, .int 0, .int 0, .int 0, .null, .int 0, .int 0, .null, .null, .null, .null, .int 0])), (q1, .inl (cZ, 864, .inl fun _ => 0)), (q2, .inl (cZ, 864, .inl fun _ => 0)), (q3, .inl (cI, 10, .inl fun _ => 0)), (q4, .inl (cI, 10, .inl fun _ => 0))] H := hP
  have hD : va_D A [(m_a, .inr (5, [.ref q1, .ref q2, .int 0, .ref q3, .ref q4, .null, .null, .int 0, .null, .null, .null, .int 0, .int 0, .int 0, .int 0, .null, .int 0, .int 0, .null, .null, .null, .null, .int 0])), (q1, .inl (cZ, 864, .inl fun _ => 0)), (q2, .inl (cZ, 864, .inl fun _ => 0)), (q3, .inl (cI, 10, .inl fun _ => 0)), (q4, .inl (cI, 10, .inl fun _ => 0))] := hD
  refine lv_aload_n hx hb dK5_init_38 rfl (lv_at hl 0 rfl) ?_
  refine lv_bipush (v := 10) hx hb dK5_init_39 (by decide) ?_
  refine va_newa (atype := .int) (ty := .int) (N' := 10) (a0 := (10, .inl fun _ => 0)) hx hb (hts _ wdt1_45) rfl hK hP hD hS hA (fun _ => rfl) (by decide) (by decide) (by decide) (Nat.le_of_ble_eq_true rfl) (Nat.le_of_ble_eq_true rfl) dK5_init_41 (fun q5 cA H hK1 hP hD hS => ?_)
  obtain rfl := tyU hK1 0 (cI := cI) rfl (by decide)
  have hP : va_P D vwCl [(m_a, .inr (5, [.ref q1, .ref q2, .int 0, .ref q3, .ref q4, .null, .null, .int 0, .null, .null, .null, .int 0, .int 0, .int 0, .int 0, .null, .int 0, .int 0, .null, .null, .null, .null, .int 0])), (q1, .inl (cZ, 864, .inl fun _ => 0)), (q2, .inl (cZ, 864, .inl fun _ => 0)), (q3, .inl (cI, 10, .inl fun _ => 0)), (q4, .inl (cI, 10, .inl fun _ => 0)), (q5, .inl (cI, 10, .inl fun _ => 0))] H := hP
  have hD : va_D A [(m_a, .inr (5, [.ref q1, .ref q2, .int 0, .ref q3, .ref q4, .null, .null, .int 0, .null, .null, .null, .int 0, .int 0, .int 0, .int 0, .null, .int 0, .int 0, .null, .null, .null, .null, .int 0])), (q1, .inl (cZ, 864, .inl fun _ => 0)), (q2, .inl (cZ, 864, .inl fun _ => 0)), (q3, .inl (cI, 10, .inl fun _ => 0)), (q4, .inl (cI, 10, .inl fun _ => 0)), (q5, .inl (cI, 10, .inl fun _ => 0))] := hD
  refine W.widen (k := 5) (n := 1758) (by omega) (by omega) ?_
  refine va_putF (D := D) (ci := 5) (v := .ref q5) (ty := .array .int) (C := RK5) (T := TK5) (N := 23) hx hb hts inK5 tyK5 tyK5_ok nmK5 hown hK hP hD hS 0 rfl rfl 5 (by decide) (hts _ wdt3_191) (fun _ h9 => h9) rfl hin rfl (by decide +kernel) rfl rfl (Nat.le_of_ble_eq_true rfl) dK5_init_43 (fun H locs hP hD hS => ?_)
  have hP : va_P D vwCl [(m_a, .inr (5, [.ref q1, .ref q2, .int 0, .ref q3, .ref q4, .ref q5, .null, .int 0, .null, .null, .null, .int 0, .int 0, .int 0, .int 0, .null, .int 0, .int 0, .null, .null, .null, .null, .int 0])), (q1, .inl (cZ, 864, .inl fun _ => 0)), (q2, .inl (cZ, 864, .inl fun _ => 0)), (q3, .inl (cI, 10, .inl fun _ => 0)), (q4, .inl (cI, 10, .inl fun _ => 0)), (q5, .inl (cI, 10, .inl fun _ => 0))] H := hP
  have hD : va_D A [(m_a, .inr (5, [.ref q1, .ref q2, .int 0, .ref q3, .ref q4, .ref q5, .null, .int 0, .null, .null, .null, .int 0, .int 0, .int 0, .int 0, .null, .int 0, .int 0, .null, .null, .null, .null, .int 0])), (q1, .inl (cZ, 864, .inl fun _ => 0)), (q2, .inl (cZ, 864, .inl fun _ => 0)), (q3, .inl (cI, 10, .inl fun _ => 0)), (q4, .inl (cI, 10, .inl fun _ => 0)), (q5, .inl (cI, 10, .inl fun _ => 0))] := hD
  refine lv_aload_n hx hb dK5_init_46 rfl (lv_at hl 0 rfl) ?_
  refine lv_bipush (v := 10) hx hb dK5_init_47 (by decide) ?_
  refine va_newa (atype := .int) (ty := .int) (N' := 10) (a0 := (10, .inl fun _ => 0)) hx hb (hts _ wdt1_45) rfl hK hP hD hS hA (fun _ => rfl) (by decide) (by decide) (by decide) (Nat.le_of_ble_eq_true rfl) (Nat.le_of_ble_eq_true rfl) dK5_init_49 (fun q6 cA H hK1 hP hD hS => ?_)
  obtain rfl := tyU hK1 0 (cI := cI) rfl (by decide)
  have hP : va_P D vwCl [(m_a, .inr (5, [.ref q1, .ref q2, .int 0, .ref q3, .ref q4, .ref q5, .null, .int 0, .null, .null, .null, .int 0, .int 0, .int 0, .int 0, .null, .int 0, .int 0, .null, .null, .null, .null, .int 0])), (q1, .inl (cZ, 864, .inl fun _ => 0)), (q2, .inl (cZ, 864, .inl fun _ => 0)), (q3, .inl (cI, 10, .inl fun _ => 0)), (q4, .inl (cI, 10, .inl fun _ => 0)), (q5, .inl (cI, 10, .inl fun _ => 0)), (q6, .inl (cI, 10, .inl fun _ => 0))] H := hP
  have hD : va_D A [(m_a, .inr (5, [.ref q1, .ref q2, .int 0, .ref q3, .ref q4, .ref q5, .null, .int 0, .null, .null, .null, .int 0, .int 0, .int 0, .int 0, .null, .int 0, .int 0, .null, .null, .null, .null, .int 0])), (q1, .inl (cZ, 864, .inl fun _ => 0)), (q2, .inl (cZ, 864, .inl fun _ => 0)), (q3, .inl (cI, 10, .inl fun _ => 0)), (q4, .inl (cI, 10, .inl fun _ => 0)), (q5, .inl (cI, 10, .inl fun _ => 0)), (q6, .inl (cI, 10, .inl fun _ => 0))] := hD
  refine W.widen (k := 6) (n := 1768) (by omega) (by omega) ?_
  refine va_putF (D := D) (ci := 5) (v := .ref q6) (ty := .array .int) (C := RK5) (T := TK5) (N := 23) hx hb hts inK5 tyK5 tyK5_ok nmK5 hown hK hP hD hS 0 rfl rfl 6 (by decide) (hts _ wdt3_192) (fun _ h9 => h9) rfl hin rfl (by decide +kernel) rfl rfl (Nat.le_of_ble_eq_true rfl) dK5_init_51 (fun H locs hP hD hS => ?_)
  have hP : va_P D vwCl [(m_a, .inr (5, [.ref q1, .ref q2, .int 0, .ref q3, .ref q4, .ref q5, .ref q6, .int 0, .null, .null, .null, .int 0, .int 0, .int 0, .int 0, .null, .int 0, .int 0, .null, .null, .null, .null, .int 0])), (q1, .inl (cZ, 864, .inl fun _ => 0)), (q2, .inl (cZ, 864, .inl fun _ => 0)), (q3, .inl (cI, 10, .inl fun _ => 0)), (q4, .inl (cI, 10, .inl fun _ => 0)), (q5, .inl (cI, 10, .inl fun _ => 0)), (q6, .inl (cI, 10, .inl fun _ => 0))] H := hP
  have hD : va_D A [(m_a, .inr (5, [.ref q1, .ref q2, .int 0, .ref q3, .ref q4, .ref q5, .ref q6, .int 0, .null, .null, .null, .int 0, .int 0, .int 0, .int 0, .null, .int 0, .int 0, .null, .null, .null, .null, .int 0])), (q1, .inl (cZ, 864, .inl fun _ => 0)), (q2, .inl (cZ, 864, .inl fun _ => 0)), (q3, .inl (cI, 10, .inl fun _ => 0)), (q4, .inl (cI, 10, .inl fun _ => 0)), (q5, .inl (cI, 10, .inl fun _ => 0)), (q6, .inl (cI, 10, .inl fun _ => 0))] := hD
  refine lv_aload_n hx hb dK5_init_54 rfl (lv_at hl 0 rfl) ?_
  refine lv_bipush (v := 12) hx hb dK5_init_55 (by decide) ?_
  refine va_newa (atype := .boolean) (ty := .boolean) (N' := 12) (a0 := (12, .inl fun _ => 0)) hx hb (hts _ wdt1_93) rfl hK hP hD hS hA (fun _ => rfl) (by decide) (by decide) (by decide) (Nat.le_of_ble_eq_true rfl) (Nat.le_of_ble_eq_true rfl) dK5_init_57 (fun q7 cA H hK1 hP hD hS => ?_)
  obtain rfl := tyU hK1 1 (cI := cZ) rfl (by decide)
  have hP : va_P D vwCl [(m_a, .inr (5, [.ref q1, .ref q2, .int 0, .ref q3, .ref q4, .ref q5, .ref q6, .int 0, .null, .null, .null, .int 0, .int 0, .int 0, .int 0, .null, .int 0, .int 0, .null, .null, .null, .null, .int 0])), (q1, .inl (cZ, 864, .inl fun _ => 0)), (q2, .inl (cZ, 864, .inl fun _ => 0)), (q3, .inl (cI, 10, .inl fun _ => 0)), (q4, .inl (cI, 10, .inl fun _ => 0)), (q5, .inl (cI, 10, .inl fun _ => 0)), (q6, .inl (cI, 10, .inl fun _ => 0)), (q7, .inl (cZ, 12, .inl fun _ => 0))] H := hP
  have hD : va_D A [(m_a, .inr (5, [.ref q1, .ref q2, .int 0, .ref q3, .ref q4, .ref q5, .ref q6, .int 0, .null, .null, .null, .int 0, .int 0, .int 0, .int 0, .null, .int 0, .int 0, .null, .null, .null, .null, .int 0])), (q1, .inl (cZ, 864, .inl fun _ => 0)), (q2, .inl (cZ, 864, .inl fun _ => 0)), (q3, .inl (cI, 10, .inl fun _ => 0)), (q4, .inl (cI, 10, .inl fun _ => 0)), (q5, .inl (cI, 10, .inl fun _ => 0)), (q6, .inl (cI, 10, .inl fun _ => 0)), (q7, .inl (cZ, 12, .inl fun _ => 0))] := hD
  refine W.widen (k := 7) (n := 1780) (by omega) (by omega) ?_
  refine va_putF (D := D) (ci := 5) (v := .ref q7) (ty := .array .boolean) (C := RK5) (T := TK5) (N := 23) hx hb hts inK5 tyK5 tyK5_ok nmK5 hown hK hP hD hS 0 rfl rfl 8 (by decide) (hts _ wdt3_194) (fun _ h9 => h9) rfl hin rfl (by decide +kernel) rfl rfl (Nat.le_of_ble_eq_true rfl) dK5_init_59 (fun H locs hP hD hS => ?_)
  have hP : va_P D vwCl [(m_a, .inr (5, [.ref q1, .ref q2, .int 0, .ref q3, .ref q4, .ref q5, .ref q6, .int 0, .ref q7, .null, .null, .int 0, .int 0, .int 0, .int 0, .null, .int 0, .int 0, .null, .null, .null, .null, .int 0])), (q1, .inl (cZ, 864, .inl fun _ => 0)), (q2, .inl (cZ, 864, .inl fun _ => 0)), (q3, .inl (cI, 10, .inl fun _ => 0)), (q4, .inl (cI, 10, .inl fun _ => 0)), (q5, .inl (cI, 10, .inl fun _ => 0)), (q6, .inl (cI, 10, .inl fun _ => 0)), (q7, .inl (cZ, 12, .inl fun _ => 0))] H := hP
  have hD : va_D A [(m_a, .inr (5, [.ref q1, .ref q2, .int 0, .ref q3, .ref q4, .ref q5, .ref q6, .int 0, .ref q7, .null, .null, .int 0, .int 0, .int 0, .int 0, .null, .int 0, .int 0, .null, .null, .null, .null, .int 0])), (q1, .inl (cZ, 864, .inl fun _ => 0)), (q2, .inl (cZ, 864, .inl fun _ => 0)), (q3, .inl (cI, 10, .inl fun _ => 0)), (q4, .inl (cI, 10, .inl fun _ => 0)), (q5, .inl (cI, 10, .inl fun _ => 0)), (q6, .inl (cI, 10, .inl fun _ => 0)), (q7, .inl (cZ, 12, .inl fun _ => 0))] := hD
  refine lv_aload_n hx hb dK5_init_62 rfl (lv_at hl 0 rfl) ?_
  refine lv_bipush (v := 12) hx hb dK5_init_63 (by decide) ?_
  refine va_newa (atype := .int) (ty := .int) (N' := 12) (a0 := (12, .inl fun _ => 0)) hx hb (hts _ wdt1_45) rfl hK hP hD hS hA (fun _ => rfl) (by decide) (by decide) (by decide) (Nat.le_of_ble_eq_true rfl) (Nat.le_of_ble_eq_true rfl) dK5_init_65 (fun q8 cA H hK1 hP hD hS => ?_)
  obtain rfl := tyU hK1 0 (cI := cI) rfl (by decide)
  have hP : va_P D vwCl [(m_a, .inr (5, [.ref q1, .ref q2, .int 0, .ref q3, .ref q4, .ref q5, .ref q6, .int 0, .ref q7, .null, .null, .int 0, .int 0, .int 0, .int 0, .null, .int 0, .int 0, .null, .null, .null, .null, .int 0])), (q1, .inl (cZ, 864, .inl fun _ => 0)), (q2, .inl (cZ, 864, .inl fun _ => 0)), (q3, .inl (cI, 10, .inl fun _ => 0)), (q4, .inl (cI, 10, .inl fun _ => 0)), (q5, .inl (cI, 10, .inl fun _ => 0)), (q6, .inl (cI, 10, .inl fun _ => 0)), (q7, .inl (cZ, 12, .inl fun _ => 0)), (q8, .inl (cI, 12, .inl fun _ => 0))] H := hP
  have hD : va_D A [(m_a, .inr (5, [.ref q1, .ref q2, .int 0, .ref q3, .ref q4, .ref q5, .ref q6, .int 0, .ref q7, .null, .null, .int 0, .int 0, .int 0, .int 0, .null, .int 0, .int 0, .null, .null, .null, .null, .int 0])), (q1, .inl (cZ, 864, .inl fun _ => 0)), (q2, .inl (cZ, 864, .inl fun _ => 0)), (q3, .inl (cI, 10, .inl fun _ => 0)), (q4, .inl (cI, 10, .inl fun _ => 0)), (q5, .inl (cI, 10, .inl fun _ => 0)), (q6, .inl (cI, 10, .inl fun _ => 0)), (q7, .inl (cZ, 12, .inl fun _ => 0)), (q8, .inl (cI, 12, .inl fun _ => 0))] := hD
  refine W.widen (k := 8) (n := 1792) (by omega) (by omega) ?_
  refine va_putF (D := D) (ci := 5) (v := .ref q8) (ty := .array .int) (C := RK5) (T := TK5) (N := 23) hx hb hts inK5 tyK5 tyK5_ok nmK5 hown hK hP hD hS 0 rfl rfl 9 (by decide) (hts _ wdt3_195) (fun _ h9 => h9) rfl hin rfl (by decide +kernel) rfl rfl (Nat.le_of_ble_eq_true rfl) dK5_init_67 (fun H locs hP hD hS => ?_)
  have hP : va_P D vwCl [(m_a, .inr (5, [.ref q1, .ref q2, .int 0, .ref q3, .ref q4, .ref q5, .ref q6, .int 0, .ref q7, .ref q8, .null, .int 0, .int 0, .int 0, .int 0, .null, .int 0, .int 0, .null, .null, .null, .null, .int 0])), (q1, .inl (cZ, 864, .inl fun _ => 0)), (q2, .inl (cZ, 864, .inl fun _ => 0)), (q3, .inl (cI, 10, .inl fun _ => 0)), (q4, .inl (cI, 10, .inl fun _ => 0)), (q5, .inl (cI, 10, .inl fun _ => 0)), (q6, .inl (cI, 10, .inl fun _ => 0)), (q7, .inl (cZ, 12, .inl fun _ => 0)), (q8, .inl (cI, 12, .inl fun _ => 0))] H := hP
  have hD : va_D A [(m_a, .inr (5, [.ref q1, .ref q2, .int 0, .ref q3, .ref q4, .ref q5, .ref q6, .int 0, .ref q7, .ref q8, .null, .int 0, .int 0, .int 0, .int 0, .null, .int 0, .int 0, .null, .null, .null, .null, .int 0])), (q1, .inl (cZ, 864, .inl fun _ => 0)), (q2, .inl (cZ, 864, .inl fun _ => 0)), (q3, .inl (cI, 10, .inl fun _ => 0)), (q4, .inl (cI, 10, .inl fun _ => 0)), (q5, .inl (cI, 10, .inl fun _ => 0)), (q6, .inl (cI, 10, .inl fun _ => 0)), (q7, .inl (cZ, 12, .inl fun _ => 0)), (q8, .inl (cI, 12, .inl fun _ => 0))] := hD
  refine lv_aload_n hx hb dK5_init_70 rfl (lv_at hl 0 rfl) ?_
  refine lv_bipush (v := 12) hx hb dK5_init_71 (by decide) ?_
  refine va_newa (atype := .int) (ty := .int) (N' := 12) (a0 := (12, .inl fun _ => 0)) hx hb (hts _ wdt1_45) rfl hK hP hD hS hA (fun _ => rfl) (by decide) (by decide) (by decide) (Nat.le_of_ble_eq_true rfl) (Nat.le_of_ble_eq_true rfl) dK5_init_73 (fun q9 cA H hK1 hP hD hS => ?_)
  obtain rfl := tyU hK1 0 (cI := cI) rfl (by decide)
  have hP : va_P D vwCl [(m_a, .inr (5, [.ref q1, .ref q2, .int 0, .ref q3, .ref q4, .ref q5, .ref q6, .int 0, .ref q7, .ref q8, .null, .int 0, .int 0, .int 0, .int 0, .null, .int 0, .int 0, .null, .null, .null, .null, .int 0])), (q1, .inl (cZ, 864, .inl fun _ => 0)), (q2, .inl (cZ, 864, .inl fun _ => 0)), (q3, .inl (cI, 10, .inl fun _ => 0)), (q4, .inl (cI, 10, .inl fun _ => 0)), (q5, .inl (cI, 10, .inl fun _ => 0)), (q6, .inl (cI, 10, .inl fun _ => 0)), (q7, .inl (cZ, 12, .inl fun _ => 0)), (q8, .inl (cI, 12, .inl fun _ => 0)), (q9, .inl (cI, 12, .inl fun _ => 0))] H := hP
  have hD : va_D A [(m_a, .inr (5, [.ref q1, .ref q2, .int 0, .ref q3, .ref q4, .ref q5, .ref q6, .int 0, .ref q7, .ref q8, .null, .int 0, .int 0, .int 0, .int 0, .null, .int 0, .int 0, .null, .null, .null, .null, .int 0])), (q1, .inl (cZ, 864, .inl fun _ => 0)), (q2, .inl (cZ, 864, .inl fun _ => 0)), (q3, .inl (cI, 10, .inl fun _ => 0)), (q4, .inl (cI, 10, .inl fun _ => 0)), (q5, .inl (cI, 10, .inl fun _ => 0)), (q6, .inl (cI, 10, .inl fun _ => 0)), (q7, .inl (cZ, 12, .inl fun _ => 0)), (q8, .inl (cI, 12, .inl fun _ => 0)), (q9, .inl (cI, 12, .inl fun _ => 0))] := hD
  refine W.widen (k := 9) (n := 1804) (by omega) (by omega) ?_
  refine va_putF (D := D) (ci := 5) (v := .ref q9) (ty := .array .int) (C := RK5) (T := TK5) (N := 23) hx hb hts inK5 tyK5 tyK5_ok nmK5 hown hK hP hD hS 0 rfl rfl 10 (by decide) (hts _ wdt3_196) (fun _ h9 => h9) rfl hin rfl (by decide +kernel) rfl rfl (Nat.le_of_ble_eq_true rfl) dK5_init_75 (fun H locs hP hD hS => ?_)
  have hP : va_P D vwCl [(m_a, .inr (5, [.ref q1, .ref q2, .int 0, .ref q3, .ref q4, .ref q5, .ref q6, .int 0, .ref q7, .ref q8, .ref q9, .int 0, .int 0, .int 0, .int 0, .null, .int 0, .int 0, .null, .null, .null, .null, .int 0])), (q1, .inl (cZ, 864, .inl fun _ => 0)), (q2, .inl (cZ, 864, .inl fun _ => 0)), (q3, .inl (cI, 10, .inl fun _ => 0)), (q4, .inl (cI, 10, .inl fun _ => 0)), (q5, .inl (cI, 10, .inl fun _ => 0)), (q6, .inl (cI, 10, .inl fun _ => 0)), (q7, .inl (cZ, 12, .inl fun _ => 0)), (q8, .inl (cI, 12, .inl fun _ => 0)), (q9, .inl (cI, 12, .inl fun _ => 0))] H := hP
  have hD : va_D A [(m_a, .inr (5, [.ref q1, .ref q2, .int 0, .ref q3, .ref q4, .ref q5, .ref q6, .int 0, .ref q7, .ref q8, .ref q9, .int 0, .int 0, .int 0, .int 0, .null, .int 0, .int 0, .null, .null, .null, .null, .int 0])), (q1, .inl (cZ, 864, .inl fun _ => 0)), (q2, .inl (cZ, 864, .inl fun _ => 0)), (q3, .inl (cI, 10, .inl fun _ => 0)), (q4, .inl (cI, 10, .inl fun _ => 0)), (q5, .inl (cI, 10, .inl fun _ => 0)), (q6, .inl (cI, 10, .inl fun _ => 0)), (q7, .inl (cZ, 12, .inl fun _ => 0)), (q8, .inl (cI, 12, .inl fun _ => 0)), (q9, .inl (cI, 12, .inl fun _ => 0))] := hD
  refine lv_aload_n hx hb dK5_init_78 rfl (lv_at hl 0 rfl) ?_
  refine lv_sipush (v := 500) hx hb dK5_init_79 (by decide) ?_
  refine va_put (D := D) (ci := 5) (v := .int 500) (ty := .int) (C := RK5) (T := TK5) (N := 23) hx hb hts inK5 tyK5 tyK5_ok nmK5 hown hK hP hD hS 0 rfl rfl 11 (by decide) (hts _ wdt3_197) (fun _ h9 => h9) rfl (by decide +kernel) rfl rfl (Nat.le_of_ble_eq_true rfl) dK5_init_82 (fun H locs hP hD hS => ?_)
  have hP : va_P D vwCl [(m_a, .inr (5, [.ref q1, .ref q2, .int 0, .ref q3, .ref q4, .ref q5, .ref q6, .int 0, .ref q7, .ref q8, .ref q9, .int 500, .int 0, .int 0, .int 0, .null, .int 0, .int 0, .null, .null, .null, .null, .int 0])), (q1, .inl (cZ, 864, .inl fun _ => 0)), (q2, .inl (cZ, 864, .inl fun _ => 0)), (q3, .inl (cI, 10, .inl fun _ => 0)), (q4, .inl (cI, 10, .inl fun _ => 0)), (q5, .inl (cI, 10, .inl fun _ => 0)), (q6, .inl (cI, 10, .inl fun _ => 0)), (q7, .inl (cZ, 12, .inl fun _ => 0)), (q8, .inl (cI, 12, .inl fun _ => 0)), (q9, .inl (cI, 12, .inl fun _ => 0))] H := hP
  have hD : va_D A [(m_a, .inr (5, [.ref q1, .ref q2, .int 0, .ref q3, .ref q4, .ref q5, .ref q6, .int 0, .ref q7, .ref q8, .ref q9, .int 500, .int 0, .int 0, .int 0, .null, .int 0, .int 0, .null, .null, .null, .null, .int 0])), (q1, .inl (cZ, 864, .inl fun _ => 0)), (q2, .inl (cZ, 864, .inl fun _ => 0)), (q3, .inl (cI, 10, .inl fun _ => 0)), (q4, .inl (cI, 10, .inl fun _ => 0)), (q5, .inl (cI, 10, .inl fun _ => 0)), (q6, .inl (cI, 10, .inl fun _ => 0)), (q7, .inl (cZ, 12, .inl fun _ => 0)), (q8, .inl (cI, 12, .inl fun _ => 0)), (q9, .inl (cI, 12, .inl fun _ => 0))] := hD
  refine lv_aload_n hx hb dK5_init_85 rfl (lv_at hl 0 rfl) ?_
  refine lv_bipush (v := 31) hx hb dK5_init_86 (by decide) ?_
  refine va_newa (atype := .int) (ty := .int) (N' := 31) (a0 := (31, .inl fun _ => 0)) hx hb (hts _ wdt1_45) rfl hK hP hD hS hA (fun _ => rfl) (by decide) (by decide) (by decide) (Nat.le_of_ble_eq_true rfl) (Nat.le_of_ble_eq_true rfl) dK5_init_88 (fun q10 cA H hK1 hP hD hS => ?_)
  obtain rfl := tyU hK1 0 (cI := cI) rfl (by decide)
  have hP : va_P D vwCl [(m_a, .inr (5, [.ref q1, .ref q2, .int 0, .ref q3, .ref q4, .ref q5, .ref q6, .int 0, .ref q7, .ref q8, .ref q9, .int 500, .int 0, .int 0, .int 0, .null, .int 0, .int 0, .null, .null, .null, .null, .int 0])), (q1, .inl (cZ, 864, .inl fun _ => 0)), (q2, .inl (cZ, 864, .inl fun _ => 0)), (q3, .inl (cI, 10, .inl fun _ => 0)), (q4, .inl (cI, 10, .inl fun _ => 0)), (q5, .inl (cI, 10, .inl fun _ => 0)), (q6, .inl (cI, 10, .inl fun _ => 0)), (q7, .inl (cZ, 12, .inl fun _ => 0)), (q8, .inl (cI, 12, .inl fun _ => 0)), (q9, .inl (cI, 12, .inl fun _ => 0)), (q10, .inl (cI, 31, .inl fun _ => 0))] H := hP
  have hD : va_D A [(m_a, .inr (5, [.ref q1, .ref q2, .int 0, .ref q3, .ref q4, .ref q5, .ref q6, .int 0, .ref q7, .ref q8, .ref q9, .int 500, .int 0, .int 0, .int 0, .null, .int 0, .int 0, .null, .null, .null, .null, .int 0])), (q1, .inl (cZ, 864, .inl fun _ => 0)), (q2, .inl (cZ, 864, .inl fun _ => 0)), (q3, .inl (cI, 10, .inl fun _ => 0)), (q4, .inl (cI, 10, .inl fun _ => 0)), (q5, .inl (cI, 10, .inl fun _ => 0)), (q6, .inl (cI, 10, .inl fun _ => 0)), (q7, .inl (cZ, 12, .inl fun _ => 0)), (q8, .inl (cI, 12, .inl fun _ => 0)), (q9, .inl (cI, 12, .inl fun _ => 0)), (q10, .inl (cI, 31, .inl fun _ => 0))] := hD
  refine W.widen (k := 10) (n := 1835) (by omega) (by omega) ?_
  refine va_putF (D := D) (ci := 5) (v := .ref q10) (ty := .array .int) (C := RK5) (T := TK5) (N := 23) hx hb hts inK5 tyK5 tyK5_ok nmK5 hown hK hP hD hS 0 rfl rfl 15 (by decide) (hts _ wdt3_201) (fun _ h9 => h9) rfl hin rfl (by decide +kernel) rfl rfl (Nat.le_of_ble_eq_true rfl) dK5_init_90 (fun H locs hP hD hS => ?_)
  have hP : va_P D vwCl [(m_a, .inr (5, [.ref q1, .ref q2, .int 0, .ref q3, .ref q4, .ref q5, .ref q6, .int 0, .ref q7, .ref q8, .ref q9, .int 500, .int 0, .int 0, .int 0, .ref q10, .int 0, .int 0, .null, .null, .null, .null, .int 0])), (q1, .inl (cZ, 864, .inl fun _ => 0)), (q2, .inl (cZ, 864, .inl fun _ => 0)), (q3, .inl (cI, 10, .inl fun _ => 0)), (q4, .inl (cI, 10, .inl fun _ => 0)), (q5, .inl (cI, 10, .inl fun _ => 0)), (q6, .inl (cI, 10, .inl fun _ => 0)), (q7, .inl (cZ, 12, .inl fun _ => 0)), (q8, .inl (cI, 12, .inl fun _ => 0)), (q9, .inl (cI, 12, .inl fun _ => 0)), (q10, .inl (cI, 31, .inl fun _ => 0))] H := hP
  have hD : va_D A [(m_a, .inr (5, [.ref q1, .ref q2, .int 0, .ref q3, .ref q4, .ref q5, .ref q6, .int 0, .ref q7, .ref q8, .ref q9, .int 500, .int 0, .int 0, .int 0, .ref q10, .int 0, .int 0, .null, .null, .null, .null, .int 0])), (q1, .inl (cZ, 864, .inl fun _ => 0)), (q2, .inl (cZ, 864, .inl fun _ => 0)), (q3, .inl (cI, 10, .inl fun _ => 0)), (q4, .inl (cI, 10, .inl fun _ => 0)), (q5, .inl (cI, 10, .inl fun _ => 0)), (q6, .inl (cI, 10, .inl fun _ => 0)), (q7, .inl (cZ, 12, .inl fun _ => 0)), (q8, .inl (cI, 12, .inl fun _ => 0)), (q9, .inl (cI, 12, .inl fun _ => 0)), (q10, .inl (cI, 31, .inl fun _ => 0))] := hD
  refine lv_aload_n hx hb dK5_init_93 rfl (lv_at hl 0 rfl) ?_
  refine lv_bipush (v := 12) hx hb dK5_init_94 (by decide) ?_
  refine va_newa (atype := .int) (ty := .int) (N' := 12) (a0 := (12, .inl fun _ => 0)) hx hb (hts _ wdt1_45) rfl hK hP hD hS hA (fun _ => rfl) (by decide) (by decide) (by decide) (Nat.le_of_ble_eq_true rfl) (Nat.le_of_ble_eq_true rfl) dK5_init_96 (fun q11 cA H hK1 hP hD hS => ?_)
  obtain rfl := tyU hK1 0 (cI := cI) rfl (by decide)
  have hP : va_P D vwCl [(m_a, .inr (5, [.ref q1, .ref q2, .int 0, .ref q3, .ref q4, .ref q5, .ref q6, .int 0, .ref q7, .ref q8, .ref q9, .int 500, .int 0, .int 0, .int 0, .ref q10, .int 0, .int 0, .null, .null, .null, .null, .int 0])), (q1, .inl (cZ, 864, .inl fun _ => 0)), (q2, .inl (cZ, 864, .inl fun _ => 0)), (q3, .inl (cI, 10, .inl fun _ => 0)), (q4, .inl (cI, 10, .inl fun _ => 0)), (q5, .inl (cI, 10, .inl fun _ => 0)), (q6, .inl (cI, 10, .inl fun _ => 0)), (q7, .inl (cZ, 12, .inl fun _ => 0)), (q8, .inl (cI, 12, .inl fun _ => 0)), (q9, .inl (cI, 12, .inl fun _ => 0)), (q10, .inl (cI, 31, .inl fun _ => 0)), (q11, .inl (cI, 12, .inl fun _ => 0))] H := hP
  have hD : va_D A [(m_a, .inr (5, [.ref q1, .ref q2, .int 0, .ref q3, .ref q4, .ref q5, .ref q6, .int 0, .ref q7, .ref q8, .ref q9, .int 500, .int 0, .int 0, .int 0, .ref q10, .int 0, .int 0, .null, .null, .null, .null, .int 0])), (q1, .inl (cZ, 864, .inl fun _ => 0)), (q2, .inl (cZ, 864, .inl fun _ => 0)), (q3, .inl (cI, 10, .inl fun _ => 0)), (q4, .inl (cI, 10, .inl fun _ => 0)), (q5, .inl (cI, 10, .inl fun _ => 0)), (q6, .inl (cI, 10, .inl fun _ => 0)), (q7, .inl (cZ, 12, .inl fun _ => 0)), (q8, .inl (cI, 12, .inl fun _ => 0)), (q9, .inl (cI, 12, .inl fun _ => 0)), (q10, .inl (cI, 31, .inl fun _ => 0)), (q11, .inl (cI, 12, .inl fun _ => 0))] := hD
  refine W.widen (k := 11) (n := 1847) (by omega) (by omega) ?_
  refine va_putF (D := D) (ci := 5) (v := .ref q11) (ty := .array .int) (C := RK5) (T := TK5) (N := 23) hx hb hts inK5 tyK5 tyK5_ok nmK5 hown hK hP hD hS 0 rfl rfl 18 (by decide) (hts _ wdt3_204) (fun _ h9 => h9) rfl hin rfl (by decide +kernel) rfl rfl (Nat.le_of_ble_eq_true rfl) dK5_init_98 (fun H locs hP hD hS => ?_)
  have hP : va_P D vwCl [(m_a, .inr (5, [.ref q1, .ref q2, .int 0, .ref q3, .ref q4, .ref q5, .ref q6, .int 0, .ref q7, .ref q8, .ref q9, .int 500, .int 0, .int 0, .int 0, .ref q10, .int 0, .int 0, .ref q11, .null, .null, .null, .int 0])), (q1, .inl (cZ, 864, .inl fun _ => 0)), (q2, .inl (cZ, 864, .inl fun _ => 0)), (q3, .inl (cI, 10, .inl fun _ => 0)), (q4, .inl (cI, 10, .inl fun _ => 0)), (q5, .inl (cI, 10, .inl fun _ => 0)), (q6, .inl (cI, 10, .inl fun _ => 0)), (q7, .inl (cZ, 12, .inl fun _ => 0)), (q8, .inl (cI, 12, .inl fun _ => 0)), (q9, .inl (cI, 12, .inl fun _ => 0)), (q10, .inl (cI, 31, .inl fun _ => 0)), (q11, .inl (cI, 12, .inl fun _ => 0))] H := hP
  have hD : va_D A [(m_a, .inr (5, [.ref q1, .ref q2, .int 0, .ref q3, .ref q4, .ref q5, .ref q6, .int 0, .ref q7, .ref q8, .ref q9, .int 500, .int 0, .int 0, .int 0, .ref q10, .int 0, .int 0, .ref q11, .null, .null, .null, .int 0])), (q1, .inl (cZ, 864, .inl fun _ => 0)), (q2, .inl (cZ, 864, .inl fun _ => 0)), (q3, .inl (cI, 10, .inl fun _ => 0)), (q4, .inl (cI, 10, .inl fun _ => 0)), (q5, .inl (cI, 10, .inl fun _ => 0)), (q6, .inl (cI, 10, .inl fun _ => 0)), (q7, .inl (cZ, 12, .inl fun _ => 0)), (q8, .inl (cI, 12, .inl fun _ => 0)), (q9, .inl (cI, 12, .inl fun _ => 0)), (q10, .inl (cI, 31, .inl fun _ => 0)), (q11, .inl (cI, 12, .inl fun _ => 0))] := hD
  refine lv_aload_n hx hb dK5_init_101 rfl (lv_at hl 0 rfl) ?_
  refine lv_bipush (v := 12) hx hb dK5_init_102 (by decide) ?_
  refine va_newa (atype := .boolean) (ty := .boolean) (N' := 12) (a0 := (12, .inl fun _ => 0)) hx hb (hts _ wdt1_93) rfl hK hP hD hS hA (fun _ => rfl) (by decide) (by decide) (by decide) (Nat.le_of_ble_eq_true rfl) (Nat.le_of_ble_eq_true rfl) dK5_init_104 (fun q12 cA H hK1 hP hD hS => ?_)
  obtain rfl := tyU hK1 1 (cI := cZ) rfl (by decide)
  have hP : va_P D vwCl [(m_a, .inr (5, [.ref q1, .ref q2, .int 0, .ref q3, .ref q4, .ref q5, .ref q6, .int 0, .ref q7, .ref q8, .ref q9, .int 500, .int 0, .int 0, .int 0, .ref q10, .int 0, .int 0, .ref q11, .null, .null, .null, .int 0])), (q1, .inl (cZ, 864, .inl fun _ => 0)), (q2, .inl (cZ, 864, .inl fun _ => 0)), (q3, .inl (cI, 10, .inl fun _ => 0)), (q4, .inl (cI, 10, .inl fun _ => 0)), (q5, .inl (cI, 10, .inl fun _ => 0)), (q6, .inl (cI, 10, .inl fun _ => 0)), (q7, .inl (cZ, 12, .inl fun _ => 0)), (q8, .inl (cI, 12, .inl fun _ => 0)), (q9, .inl (cI, 12, .inl fun _ => 0)), (q10, .inl (cI, 31, .inl fun _ => 0)), (q11, .inl (cI, 12, .inl fun _ => 0)), (q12, .inl (cZ, 12, .inl fun _ => 0))] H := hP
  have hD : va_D A [(m_a, .inr (5, [.ref q1, .ref q2, .int 0, .ref q3, .ref q4, .ref q5, .ref q6, .int 0, .ref q7, .ref q8, .ref q9, .int 500, .int 0, .int 0, .int 0, .ref q10, .int 0, .int 0, .ref q11, .null, .null, .null, .int 0])), (q1, .inl (cZ, 864, .inl fun _ => 0)), (q2, .inl (cZ, 864, .inl fun _ => 0)), (q3, .inl (cI, 10, .inl fun _ => 0)), (q4, .inl (cI, 10, .inl fun _ => 0)), (q5, .inl (cI, 10, .inl fun _ => 0)), (q6, .inl (cI, 10, .inl fun _ => 0)), (q7, .inl (cZ, 12, .inl fun _ => 0)), (q8, .inl (cI, 12, .inl fun _ => 0)), (q9, .inl (cI, 12, .inl fun _ => 0)), (q10, .inl (cI, 31, .inl fun _ => 0)), (q11, .inl (cI, 12, .inl fun _ => 0)), (q12, .inl (cZ, 12, .inl fun _ => 0))] := hD
  refine W.widen (k := 12) (n := 1859) (by omega) (by omega) ?_
  refine va_putF (D := D) (ci := 5) (v := .ref q12) (ty := .array .boolean) (C := RK5) (T := TK5) (N := 23) hx hb hts inK5 tyK5 tyK5_ok nmK5 hown hK hP hD hS 0 rfl rfl 19 (by decide) (hts _ wdt3_205) (fun _ h9 => h9) rfl hin rfl (by decide +kernel) rfl rfl (Nat.le_of_ble_eq_true rfl) dK5_init_106 (fun H locs hP hD hS => ?_)
  have hP : va_P D vwCl [(m_a, .inr (5, [.ref q1, .ref q2, .int 0, .ref q3, .ref q4, .ref q5, .ref q6, .int 0, .ref q7, .ref q8, .ref q9, .int 500, .int 0, .int 0, .int 0, .ref q10, .int 0, .int 0, .ref q11, .ref q12, .null, .null, .int 0])), (q1, .inl (cZ, 864, .inl fun _ => 0)), (q2, .inl (cZ, 864, .inl fun _ => 0)), (q3, .inl (cI, 10, .inl fun _ => 0)), (q4, .inl (cI, 10, .inl fun _ => 0)), (q5, .inl (cI, 10, .inl fun _ => 0)), (q6, .inl (cI, 10, .inl fun _ => 0)), (q7, .inl (cZ, 12, .inl fun _ => 0)), (q8, .inl (cI, 12, .inl fun _ => 0)), (q9, .inl (cI, 12, .inl fun _ => 0)), (q10, .inl (cI, 31, .inl fun _ => 0)), (q11, .inl (cI, 12, .inl fun _ => 0)), (q12, .inl (cZ, 12, .inl fun _ => 0))] H := hP
  have hD : va_D A [(m_a, .inr (5, [.ref q1, .ref q2, .int 0, .ref q3, .ref q4, .ref q5, .ref q6, .int 0, .ref q7, .ref q8, .ref q9, .int 500, .int 0, .int 0, .int 0, .ref q10, .int 0, .int 0, .ref q11, .ref q12, .null, .null, .int 0])), (q1, .inl (cZ, 864, .inl fun _ => 0)), (q2, .inl (cZ, 864, .inl fun _ => 0)), (q3, .inl (cI, 10, .inl fun _ => 0)), (q4, .inl (cI, 10, .inl fun _ => 0)), (q5, .inl (cI, 10, .inl fun _ => 0)), (q6, .inl (cI, 10, .inl fun _ => 0)), (q7, .inl (cZ, 12, .inl fun _ => 0)), (q8, .inl (cI, 12, .inl fun _ => 0)), (q9, .inl (cI, 12, .inl fun _ => 0)), (q10, .inl (cI, 31, .inl fun _ => 0)), (q11, .inl (cI, 12, .inl fun _ => 0)), (q12, .inl (cZ, 12, .inl fun _ => 0))] := hD
  refine lv_aload_n hx hb dK5_init_109 rfl (lv_at hl 0 rfl) ?_
  refine lv_bipush (v := 12) hx hb dK5_init_110 (by decide) ?_
  refine va_newa (atype := .int) (ty := .int) (N' := 12) (a0 := (12, .inl fun _ => 0)) hx hb (hts _ wdt1_45) rfl hK hP hD hS hA (fun _ => rfl) (by decide) (by decide) (by decide) (Nat.le_of_ble_eq_true rfl) (Nat.le_of_ble_eq_true rfl) dK5_init_112 (fun q13 cA H hK1 hP hD hS => ?_)
  obtain rfl := tyU hK1 0 (cI := cI) rfl (by decide)
  have hP : va_P D vwCl [(m_a, .inr (5, [.ref q1, .ref q2, .int 0, .ref q3, .ref q4, .ref q5, .ref q6, .int 0, .ref q7, .ref q8, .ref q9, .int 500, .int 0, .int 0, .int 0, .ref q10, .int 0, .int 0, .ref q11, .ref q12, .null, .null, .int 0])), (q1, .inl (cZ, 864, .inl fun _ => 0)), (q2, .inl (cZ, 864, .inl fun _ => 0)), (q3, .inl (cI, 10, .inl fun _ => 0)), (q4, .inl (cI, 10, .inl fun _ => 0)), (q5, .inl (cI, 10, .inl fun _ => 0)), (q6, .inl (cI, 10, .inl fun _ => 0)), (q7, .inl (cZ, 12, .inl fun _ => 0)), (q8, .inl (cI, 12, .inl fun _ => 0)), (q9, .inl (cI, 12, .inl fun _ => 0)), (q10, .inl (cI, 31, .inl fun _ => 0)), (q11, .inl (cI, 12, .inl fun _ => 0)), (q12, .inl (cZ, 12, .inl fun _ => 0)), (q13, .inl (cI, 12, .inl fun _ => 0))] H := hP
  have hD : va_D A [(m_a, .inr (5, [.ref q1, .ref q2, .int 0, .ref q3, .ref q4, .ref q5, .ref q6, .int 0, .ref q7, .ref q8, .ref q9, .int 500, .int 0, .int 0, .int 0, .ref q10, .int 0, .int 0, .ref q11, .ref q12, .null, .null, .int 0])), (q1, .inl (cZ, 864, .inl fun _ => 0)), (q2, .inl (cZ, 864, .inl fun _ => 0)), (q3, .inl (cI, 10, .inl fun _ => 0)), (q4, .inl (cI, 10, .inl fun _ => 0)), (q5, .inl (cI, 10, .inl fun _ => 0)), (q6, .inl (cI, 10, .inl fun _ => 0)), (q7, .inl (cZ, 12, .inl fun _ => 0)), (q8, .inl (cI, 12, .inl fun _ => 0)), (q9, .inl (cI, 12, .inl fun _ => 0)), (q10, .inl (cI, 31, .inl fun _ => 0)), (q11, .inl (cI, 12, .inl fun _ => 0)), (q12, .inl (cZ, 12, .inl fun _ => 0)), (q13, .inl (cI, 12, .inl fun _ => 0))] := hD
  refine W.widen (k := 13) (n := 1871) (by omega) (by omega) ?_
  refine va_putF (D := D) (ci := 5) (v := .ref q13) (ty := .array .int) (C := RK5) (T := TK5) (N := 23) hx hb hts inK5 tyK5 tyK5_ok nmK5 hown hK hP hD hS 0 rfl rfl 20 (by decide) (hts _ wdt3_206) (fun _ h9 => h9) rfl hin rfl (by decide +kernel) rfl rfl (Nat.le_of_ble_eq_true rfl) dK5_init_114 (fun H locs hP hD hS => ?_)
  have hP : va_P D vwCl [(m_a, .inr (5, [.ref q1, .ref q2, .int 0, .ref q3, .ref q4, .ref q5, .ref q6, .int 0, .ref q7, .ref q8, .ref q9, .int 500, .int 0, .int 0, .int 0, .ref q10, .int 0, .int 0, .ref q11, .ref q12, .ref q13, .null, .int 0])), (q1, .inl (cZ, 864, .inl fun _ => 0)), (q2, .inl (cZ, 864, .inl fun _ => 0)), (q3, .inl (cI, 10, .inl fun _ => 0)), (q4, .inl (cI, 10, .inl fun _ => 0)), (q5, .inl (cI, 10, .inl fun _ => 0)), (q6, .inl (cI, 10, .inl fun _ => 0)), (q7, .inl (cZ, 12, .inl fun _ => 0)), (q8, .inl (cI, 12, .inl fun _ => 0)), (q9, .inl (cI, 12, .inl fun _ => 0)), (q10, .inl (cI, 31, .inl fun _ => 0)), (q11, .inl (cI, 12, .inl fun _ => 0)), (q12, .inl (cZ, 12, .inl fun _ => 0)), (q13, .inl (cI, 12, .inl fun _ => 0))] H := hP
  have hD : va_D A [(m_a, .inr (5, [.ref q1, .ref q2, .int 0, .ref q3, .ref q4, .ref q5, .ref q6, .int 0, .ref q7, .ref q8, .ref q9, .int 500, .int 0, .int 0, .int 0, .ref q10, .int 0, .int 0, .ref q11, .ref q12, .ref q13, .null, .int 0])), (q1, .inl (cZ, 864, .inl fun _ => 0)), (q2, .inl (cZ, 864, .inl fun _ => 0)), (q3, .inl (cI, 10, .inl fun _ => 0)), (q4, .inl (cI, 10, .inl fun _ => 0)), (q5, .inl (cI, 10, .inl fun _ => 0)), (q6, .inl (cI, 10, .inl fun _ => 0)), (q7, .inl (cZ, 12, .inl fun _ => 0)), (q8, .inl (cI, 12, .inl fun _ => 0)), (q9, .inl (cI, 12, .inl fun _ => 0)), (q10, .inl (cI, 31, .inl fun _ => 0)), (q11, .inl (cI, 12, .inl fun _ => 0)), (q12, .inl (cZ, 12, .inl fun _ => 0)), (q13, .inl (cI, 12, .inl fun _ => 0))] := hD
  refine lv_aload_n hx hb dK5_init_117 rfl (lv_at hl 0 rfl) ?_
  refine lv_sipush (v := 400) hx hb dK5_init_118 (by decide) ?_
  refine va_newa (atype := .int) (ty := .int) (N' := 400) (a0 := (400, .inl fun _ => 0)) hx hb (hts _ wdt1_45) rfl hK hP hD hS hA (fun _ => rfl) (by decide) (by decide) (by decide) (Nat.le_of_ble_eq_true rfl) (Nat.le_of_ble_eq_true rfl) dK5_init_121 (fun q14 cA H hK1 hP hD hS => ?_)
  obtain rfl := tyU hK1 0 (cI := cI) rfl (by decide)
  have hP : va_P D vwCl [(m_a, .inr (5, [.ref q1, .ref q2, .int 0, .ref q3, .ref q4, .ref q5, .ref q6, .int 0, .ref q7, .ref q8, .ref q9, .int 500, .int 0, .int 0, .int 0, .ref q10, .int 0, .int 0, .ref q11, .ref q12, .ref q13, .null, .int 0])), (q1, .inl (cZ, 864, .inl fun _ => 0)), (q2, .inl (cZ, 864, .inl fun _ => 0)), (q3, .inl (cI, 10, .inl fun _ => 0)), (q4, .inl (cI, 10, .inl fun _ => 0)), (q5, .inl (cI, 10, .inl fun _ => 0)), (q6, .inl (cI, 10, .inl fun _ => 0)), (q7, .inl (cZ, 12, .inl fun _ => 0)), (q8, .inl (cI, 12, .inl fun _ => 0)), (q9, .inl (cI, 12, .inl fun _ => 0)), (q10, .inl (cI, 31, .inl fun _ => 0)), (q11, .inl (cI, 12, .inl fun _ => 0)), (q12, .inl (cZ, 12, .inl fun _ => 0)), (q13, .inl (cI, 12, .inl fun _ => 0)), (q14, .inl (cI, 400, .inl fun _ => 0))] H := hP
  have hD : va_D A [(m_a, .inr (5, [.ref q1, .ref q2, .int 0, .ref q3, .ref q4, .ref q5, .ref q6, .int 0, .ref q7, .ref q8, .ref q9, .int 500, .int 0, .int 0, .int 0, .ref q10, .int 0, .int 0, .ref q11, .ref q12, .ref q13, .null, .int 0])), (q1, .inl (cZ, 864, .inl fun _ => 0)), (q2, .inl (cZ, 864, .inl fun _ => 0)), (q3, .inl (cI, 10, .inl fun _ => 0)), (q4, .inl (cI, 10, .inl fun _ => 0)), (q5, .inl (cI, 10, .inl fun _ => 0)), (q6, .inl (cI, 10, .inl fun _ => 0)), (q7, .inl (cZ, 12, .inl fun _ => 0)), (q8, .inl (cI, 12, .inl fun _ => 0)), (q9, .inl (cI, 12, .inl fun _ => 0)), (q10, .inl (cI, 31, .inl fun _ => 0)), (q11, .inl (cI, 12, .inl fun _ => 0)), (q12, .inl (cZ, 12, .inl fun _ => 0)), (q13, .inl (cI, 12, .inl fun _ => 0)), (q14, .inl (cI, 400, .inl fun _ => 0))] := hD
  refine W.widen (k := 14) (n := 2271) (by omega) (by omega) ?_
  refine va_putF (D := D) (ci := 5) (v := .ref q14) (ty := .array .int) (C := RK5) (T := TK5) (N := 23) hx hb hts inK5 tyK5 tyK5_ok nmK5 hown hK hP hD hS 0 rfl rfl 21 (by decide) (hts _ wdt3_207) (fun _ h9 => h9) rfl hin rfl (by decide +kernel) rfl rfl (Nat.le_of_ble_eq_true rfl) dK5_init_123 (fun H locs hP hD hS => ?_)
  have hP : va_P D vwCl [(m_a, .inr (5, [.ref q1, .ref q2, .int 0, .ref q3, .ref q4, .ref q5, .ref q6, .int 0, .ref q7, .ref q8, .ref q9, .int 500, .int 0, .int 0, .int 0, .ref q10, .int 0, .int 0, .ref q11, .ref q12, .ref q13, .ref q14, .int 0])), (q1, .inl (cZ, 864, .inl fun _ => 0)), (q2, .inl (cZ, 864, .inl fun _ => 0)), (q3, .inl (cI, 10, .inl fun _ => 0)), (q4, .inl (cI, 10, .inl fun _ => 0)), (q5, .inl (cI, 10, .inl fun _ => 0)), (q6, .inl (cI, 10, .inl fun _ => 0)), (q7, .inl (cZ, 12, .inl fun _ => 0)), (q8, .inl (cI, 12, .inl fun _ => 0)), (q9, .inl (cI, 12, .inl fun _ => 0)), (q10, .inl (cI, 31, .inl fun _ => 0)), (q11, .inl (cI, 12, .inl fun _ => 0)), (q12, .inl (cZ, 12, .inl fun _ => 0)), (q13, .inl (cI, 12, .inl fun _ => 0)), (q14, .inl (cI, 400, .inl fun _ => 0))] H := hP
  have hD : va_D A [(m_a, .inr (5, [.ref q1, .ref q2, .int 0, .ref q3, .ref q4, .ref q5, .ref q6, .int 0, .ref q7, .ref q8, .ref q9, .int 500, .int 0, .int 0, .int 0, .ref q10, .int 0, .int 0, .ref q11, .ref q12, .ref q13, .ref q14, .int 0])), (q1, .inl (cZ, 864, .inl fun _ => 0)), (q2, .inl (cZ, 864, .inl fun _ => 0)), (q3, .inl (cI, 10, .inl fun _ => 0)), (q4, .inl (cI, 10, .inl fun _ => 0)), (q5, .inl (cI, 10, .inl fun _ => 0)), (q6, .inl (cI, 10, .inl fun _ => 0)), (q7, .inl (cZ, 12, .inl fun _ => 0)), (q8, .inl (cI, 12, .inl fun _ => 0)), (q9, .inl (cI, 12, .inl fun _ => 0)), (q10, .inl (cI, 31, .inl fun _ => 0)), (q11, .inl (cI, 12, .inl fun _ => 0)), (q12, .inl (cZ, 12, .inl fun _ => 0)), (q13, .inl (cI, 12, .inl fun _ => 0)), (q14, .inl (cI, 400, .inl fun _ => 0))] := hD
  refine lv_aload_n hx hb dK5_init_126 rfl (lv_at hl 0 rfl) ?_
  refine lv_iconst (v := 0) hx hb dK5_init_127 (by decide) ?_
  refine va_put (D := D) (ci := 5) (v := .int 0) (ty := .boolean) (C := RK5) (T := TK5) (N := 23) hx hb hts inK5 tyK5 tyK5_ok nmK5 hown hK hP hD hS 0 rfl rfl 13 (by decide) (hts _ wdt3_199) (fun _ h9 => h9) rfl (by decide +kernel) rfl rfl (Nat.le_of_ble_eq_true rfl) dK5_init_128 (fun H locs hP hD hS => ?_)
  have hP : va_P D vwCl [(m_a, .inr (5, [.ref q1, .ref q2, .int 0, .ref q3, .ref q4, .ref q5, .ref q6, .int 0, .ref q7, .ref q8, .ref q9, .int 500, .int 0, .int 0, .int 0, .ref q10, .int 0, .int 0, .ref q11, .ref q12, .ref q13, .ref q14, .int 0])), (q1, .inl (cZ, 864, .inl fun _ => 0)), (q2, .inl (cZ, 864, .inl fun _ => 0)), (q3, .inl (cI, 10, .inl fun _ => 0)), (q4, .inl (cI, 10, .inl fun _ => 0)), (q5, .inl (cI, 10, .inl fun _ => 0)), (q6, .inl (cI, 10, .inl fun _ => 0)), (q7, .inl (cZ, 12, .inl fun _ => 0)), (q8, .inl (cI, 12, .inl fun _ => 0)), (q9, .inl (cI, 12, .inl fun _ => 0)), (q10, .inl (cI, 31, .inl fun _ => 0)), (q11, .inl (cI, 12, .inl fun _ => 0)), (q12, .inl (cZ, 12, .inl fun _ => 0)), (q13, .inl (cI, 12, .inl fun _ => 0)), (q14, .inl (cI, 400, .inl fun _ => 0))] H := hP
  have hD : va_D A [(m_a, .inr (5, [.ref q1, .ref q2, .int 0, .ref q3, .ref q4, .ref q5, .ref q6, .int 0, .ref q7, .ref q8, .ref q9, .int 500, .int 0, .int 0, .int 0, .ref q10, .int 0, .int 0, .ref q11, .ref q12, .ref q13, .ref q14, .int 0])), (q1, .inl (cZ, 864, .inl fun _ => 0)), (q2, .inl (cZ, 864, .inl fun _ => 0)), (q3, .inl (cI, 10, .inl fun _ => 0)), (q4, .inl (cI, 10, .inl fun _ => 0)), (q5, .inl (cI, 10, .inl fun _ => 0)), (q6, .inl (cI, 10, .inl fun _ => 0)), (q7, .inl (cZ, 12, .inl fun _ => 0)), (q8, .inl (cI, 12, .inl fun _ => 0)), (q9, .inl (cI, 12, .inl fun _ => 0)), (q10, .inl (cI, 31, .inl fun _ => 0)), (q11, .inl (cI, 12, .inl fun _ => 0)), (q12, .inl (cZ, 12, .inl fun _ => 0)), (q13, .inl (cI, 12, .inl fun _ => 0)), (q14, .inl (cI, 400, .inl fun _ => 0))] := hD
  have hP := hP.sub (ws' := (wX m_a q1 q2 q3 q4 q5 q6 q7 q8 q9 q10 q11 q12 q13 q14 cI cZ cB cC 0 0 500 0 0 0 0 0 0 (fun _ => 0) (fun _ => 0) (fun _ => 0) (fun _ => 0) (fun _ => 0) (fun _ => 0) (fun _ => 0) (fun _ => 0) (fun _ => 0) (fun _ => 0) (fun _ => 0) (fun _ => 0) (fun _ => 0) (fun _ => 0))) [0, 1, 2, 3, 4, 5, 6, 7, 8, 9, 10, 11, 12, 13, 14] rfl
  have hD := hD.sub (ws' := (wX m_a q1 q2 q3 q4 q5 q6 q7 q8 q9 q10 q11 q12 q13 q14 cI cZ cB cC 0 0 500 0 0 0 0 0 0 (fun _ => 0) (fun _ => 0) (fun _ => 0) (fun _ => 0) (fun _ => 0) (fun _ => 0) (fun _ => 0) (fun _ => 0) (fun _ => 0) (fun _ => 0) (fun _ => 0) (fun _ => 0) (fun _ => 0) (fun _ => 0))) [0, 1, 2, 3, 4, 5, 6, 7, 8, 9, 10, 11, 12, 13, 14] (by decide) rfl
  exact k_retvu (S := Nat × Nat × Nat × Nat × Nat × Nat × Nat × Nat × Nat × Nat × Nat × Nat × Nat × Nat) (ws := fun u => (wX m_a u.1 u.2.1 u.2.2.1 u.2.2.2.1 u.2.2.2.2.1 u.2.2.2.2.2.1 u.2.2.2.2.2.2.1 u.2.2.2.2.2.2.2.1 u.2.2.2.2.2.2.2.2.1 u.2.2.2.2.2.2.2.2.2.1 u.2.2.2.2.2.2.2.2.2.2.1 u.2.2.2.2.2.2.2.2.2.2.2.1 u.2.2.2.2.2.2.2.2.2.2.2.2.1 u.2.2.2.2.2.2.2.2.2.2.2.2.2 cI cZ cB cC 0 0 500 0 0 0 0 0 0 (fun _ => 0) (fun _ => 0) (fun _ => 0) (fun _ => 0) (fun _ => 0) (fun _ => 0) (fun _ => 0) (fun _ => 0) (fun _ => 0) (fun _ => 0) (fun _ => 0) (fun _ => 0) (fun _ => 0) (fun _ => 0))) (q1, q2, q3, q4, q5, q6, q7, q8, q9, q10, q11, q12, q13, q14) hx hb hr hlocks hP hD hS dK5_init_131
def mK5_in (v0 : Int32) (v1 : Int32) (v2 : Int32) : Option (Int32) :=
  if v0 < v1 then
  (some 0)
  else
  (if v2 < v0 then
    (some 0)
    else
    (some 1))
abbrev rmK5_in : Room := { frames := 0, cells := 0, slots := 0, locals := 0 }
set_option maxHeartbeats 4000000 in
set_option maxRecDepth 100000 in
theorem kK5_in (l : Launch) (D : va_G) (cI cZ cB cC : ClassId) (sz : Nat) (v0 : Int32) (v1 : Int32) (v2 : Int32) (r0 : Int32) (hm : mK5_in v0 v1 v2 = some r0) : Met l yK5_in wsK5_in rmK5_in (va_Pc [.int v0, .int v1, .int v2] (Pr D (tyL cI cZ cB cC) sz [])) (QI D (va_A [] sz) r0 []) 0 0 (va_A [] sz) := by
  refine Met.ofW (cc := cK5_in) (maxL := 3) (ret := (some .boolean)) (by decide) rfl ?_
  intro p e s m args below meth c s₁ B hml hv
  obtain ⟨rfl, hsz, hP, hK, hD0, hN⟩ := hv
  have hx := B.exec
  have hb := B.bytes
  have hr := B.returns
  have hts := htsA (atoms_spec (ws := wsK5_in) B.pre)
  have hown : s.vm.findClass RK5 = some m.cls := findClass_of_methodNamed B.named
  have hlocks := B.notSynchronized
  subst hsz
  have hD := hD0.self (sz := s.heap.size)
  generalize hAe : va_A [] s.heap.size = A at hD ⊢
  have hA : ∀ q : Nat, s.heap.size ≤ q → A q := fun q h => by rw [← hAe]; exact Or.inr h
  refine kstart (A := A) hP (fun H hP hS => ?_)
  have hl := lv_entry ([.int v0, .int v1, .int v2]) (n := 3) (Nat.le_of_ble_eq_true rfl)
  rw [lg_entry_eq]
  generalize (lg_sl ([.int v0, .int v1, .int v2]) ++ List.replicate (3 - (lg_sl ([.int v0, .int v1, .int v2])).length) Slot.unset).toArray = ls at hl ⊢
  have hl : lv_has ls 3 [(0, .int v0), (1, .int v1), (2, .int v2)] := hl
  unfold mK5_in at hm
  refine lv_iload_n hx hb dK5_in_0 rfl (lv_at hl 0 rfl) ?_
  refine lv_iload_n hx hb dK5_in_1 rfl (lv_at hl 1 rfl) ?_
  refine lv_icmp_lt (tgt := 14) hx hb dK5_in_2 (by decide) (fun hc => ?_) (fun hc => ?_)
  · replace hm := ift hm hc
    refine lv_iconst (v := 0) hx hb dK5_in_14 (by decide) ?_
    replace hm := Option.some.inj hm
    subst hm
    exact k_retz hx hb hr hlocks rfl hP hD hS dK5_in_15
  · replace hm := iff_ hm hc
    refine lv_iload_n hx hb dK5_in_5 rfl (lv_at hl 0 rfl) ?_
    refine lv_iload_n hx hb dK5_in_6 rfl (lv_at hl 2 rfl) ?_
    refine lv_icmp_gt (tgt := 14) hx hb dK5_in_7 (by decide) (fun hc => ?_) (fun hc => ?_)
    · replace hm := ift hm hc
      refine lv_iconst (v := 0) hx hb dK5_in_14 (by decide) ?_
      replace hm := Option.some.inj hm
      subst hm
      exact k_retz hx hb hr hlocks rfl hP hD hS dK5_in_15
    · replace hm := iff_ hm hc
      refine lv_iconst (v := 1) hx hb dK5_in_10 (by decide) ?_
      refine lv_goto (tgt := 15) hx hb dK5_in_11 (by decide) ?_
      replace hm := Option.some.inj hm
      subst hm
      exact k_retz hx hb hr hlocks rfl hP hD hS dK5_in_15
def mK5_isTriple (v0 : Int32) (v1 : Int32) (v2 : Int32) : Option (Int32) :=
  bd1 (mK5_in v0 0 11) fun x1 => if x1 = 0 then
  (some 0)
  else
  (bd1 (mK5_in v1 0 5) fun x3 => if x3 = 0 then
    (some 0)
    else
    (bd1 (mK5_in v2 0 11) fun x5 => if x5 = 0 then
      (some 0)
      else
      (some 1)))
abbrev rmK5_isTriple : Room := { frames := 1, cells := 0, slots := 0, locals := 22 }
set_option maxHeartbeats 4000000 in
set_option maxRecDepth 100000 in
theorem kK5_isTriple (l : Launch) (D : va_G) (cI cZ cB cC : ClassId) (sz : Nat) (v0 : Int32) (v1 : Int32) (v2 : Int32) (r0 : Int32) (hm : mK5_isTriple v0 v1 v2 = some r0) : Met l yK5_isTriple wsK5_isTriple rmK5_isTriple (va_Pc [.int v0, .int v1, .int v2] (Pr D (tyL cI cZ cB cC) sz [])) (QI D (va_A [] sz) r0 []) 0 0 (va_A [] sz) := by
  refine Met.ofW (cc := cK5_isTriple) (maxL := 3) (ret := (some .boolean)) (by decide) rfl ?_
  intro p e s m args below meth c s₁ B hml hv
  obtain ⟨rfl, hsz, hP, hK, hD0, hN⟩ := hv
  have hx := B.exec
  have hb := B.bytes
  have hr := B.returns
  have hts := htsA (atoms_spec (ws := wsK5_isTriple) B.pre)
  have hown : s.vm.findClass RK5 = some m.cls := findClass_of_methodNamed B.named
  have hlocks := B.notSynchronized
  subst hsz
  have hD := hD0.self (sz := s.heap.size)
  generalize hAe : va_A [] s.heap.size = A at hD ⊢
  have hA : ∀ q : Nat, s.heap.size ≤ q → A q := fun q h => by rw [← hAe]; exact Or.inr h
  refine kstart (A := A) hP (fun H hP hS => ?_)
  have hl := lv_entry ([.int v0, .int v1, .int v2]) (n := 3) (Nat.le_of_ble_eq_true rfl)
  rw [lg_entry_eq]
  generalize (lg_sl ([.int v0, .int v1, .int v2]) ++ List.replicate (3 - (lg_sl ([.int v0, .int v1, .int v2])).length) Slot.unset).toArray = ls at hl ⊢
  have hl : lv_has ls 3 [(0, .int v0), (1, .int v1), (2, .int v2)] := hl
  unfold mK5_isTriple at hm
  refine lv_iload_n hx hb dK5_isTriple_0 rfl (lv_at hl 0 rfl) ?_
  refine lv_iconst (v := 0) hx hb dK5_isTriple_1 (by decide) ?_
  refine lv_bipush (v := 11) hx hb dK5_isTriple_2 (by decide) ?_
  obtain ⟨x1, ec2, hm⟩ := bd1_s hm
  have hPc : va_P D vwCl [] H := va_P0
  have hDc : va_D A [] := va_D0
  refine k_calli0 (va_runS (As := [.int v0, .int 0, .int 11]) (rest := []) ⟨hx, hb, hml, hown, hts⟩ (kK5_in l D cI cZ cB cC H.size v0 0 11 x1 ec2) (va_cwS 3 hts (gdS wdt4_23 wdt4_24 wdt1_10 gkK5_in) rfl rfl rfl (by decide +kernel) ⟨Nat.le_of_ble_eq_true rfl, Nat.le_of_ble_eq_true rfl⟩) ⟨Pr_blind, fun U hU hW => ⟨rfl, Pr_at hK hN hPc hDc hU hW⟩⟩ rfl rfl hl.1 rfl (lv_room (Nat.le_of_ble_eq_true rfl)) dK5_isTriple_4 ⟨Nat.le_of_ble_eq_true rfl, Nat.le_of_ble_eq_true rfl⟩) hP hD hS hA (fun H locs hP hD hS => ?_)
  refine lv_if_eq (tgt := 33) hx hb dK5_isTriple_7 (by decide) (fun hc => ?_) (fun hc => ?_)
  · replace hm := ift hm hc
    refine lv_iconst (v := 0) hx hb dK5_isTriple_33 (by decide) ?_
    replace hm := Option.some.inj hm
    subst hm
    exact k_retz hx hb hr hlocks rfl hP hD hS dK5_isTriple_34
  · replace hm := iff_ hm hc
    refine lv_iload_n hx hb dK5_isTriple_10 rfl (lv_at hl 1 rfl) ?_
    refine lv_iconst (v := 0) hx hb dK5_isTriple_11 (by decide) ?_
    refine lv_iconst (v := 5) hx hb dK5_isTriple_12 (by decide) ?_
    obtain ⟨x3, ec4, hm⟩ := bd1_s hm
    have hPc : va_P D vwCl [] H := va_P0
    have hDc : va_D A [] := va_D0
    refine k_calli0 (va_runS (As := [.int v1, .int 0, .int 5]) (rest := []) ⟨hx, hb, hml, hown, hts⟩ (kK5_in l D cI cZ cB cC H.size v1 0 5 x3 ec4) (va_cwS 3 hts (gdS wdt4_23 wdt4_24 wdt1_10 gkK5_in) rfl rfl rfl (by decide +kernel) ⟨Nat.le_of_ble_eq_true rfl, Nat.le_of_ble_eq_true rfl⟩) ⟨Pr_blind, fun U hU hW => ⟨rfl, Pr_at hK hN hPc hDc hU hW⟩⟩ rfl rfl hl.1 rfl (lv_room (Nat.le_of_ble_eq_true rfl)) dK5_isTriple_13 ⟨Nat.le_of_ble_eq_true rfl, Nat.le_of_ble_eq_true rfl⟩) hP hD hS hA (fun H locs hP hD hS => ?_)
    refine lv_if_eq (tgt := 33) hx hb dK5_isTriple_16 (by decide) (fun hc => ?_) (fun hc => ?_)
    · replace hm := ift hm hc
      refine lv_iconst (v := 0) hx hb dK5_isTriple_33 (by decide) ?_
      replace hm := Option.some.inj hm
      subst hm
      exact k_retz hx hb hr hlocks rfl hP hD hS dK5_isTriple_34
    · replace hm := iff_ hm hc
      refine lv_iload_n hx hb dK5_isTriple_19 rfl (lv_at hl 2 rfl) ?_
      refine lv_iconst (v := 0) hx hb dK5_isTriple_20 (by decide) ?_
      refine lv_bipush (v := 11) hx hb dK5_isTriple_21 (by decide) ?_
      obtain ⟨x5, ec6, hm⟩ := bd1_s hm
      have hPc : va_P D vwCl [] H := va_P0
      have hDc : va_D A [] := va_D0
      refine k_calli0 (va_runS (As := [.int v2, .int 0, .int 11]) (rest := []) ⟨hx, hb, hml, hown, hts⟩ (kK5_in l D cI cZ cB cC H.size v2 0 11 x5 ec6) (va_cwS 3 hts (gdS wdt4_23 wdt4_24 wdt1_10 gkK5_in) rfl rfl rfl (by decide +kernel) ⟨Nat.le_of_ble_eq_true rfl, Nat.le_of_ble_eq_true rfl⟩) ⟨Pr_blind, fun U hU hW => ⟨rfl, Pr_at hK hN hPc hDc hU hW⟩⟩ rfl rfl hl.1 rfl (lv_room (Nat.le_of_ble_eq_true rfl)) dK5_isTriple_23 ⟨Nat.le_of_ble_eq_true rfl, Nat.le_of_ble_eq_true rfl⟩) hP hD hS hA (fun H locs hP hD hS => ?_)
      refine lv_if_eq (tgt := 33) hx hb dK5_isTriple_26 (by decide) (fun hc => ?_) (fun hc => ?_)
      · replace hm := ift hm hc
        refine lv_iconst (v := 0) hx hb dK5_isTriple_33 (by decide) ?_
        replace hm := Option.some.inj hm
        subst hm
        exact k_retz hx hb hr hlocks rfl hP hD hS dK5_isTriple_34
      · replace hm := iff_ hm hc
        refine lv_iconst (v := 1) hx hb dK5_isTriple_29 (by decide) ?_
        refine lv_goto (tgt := 34) hx hb dK5_isTriple_30 (by decide) ?_
        replace hm := Option.some.inj hm
        subst hm
        exact k_retz hx hb hr hlocks rfl hP hD hS dK5_isTriple_34
def mK5_codeOf (v0 : Int32) (v1 : Int32) (v2 : Int32) : Option (Int32) :=
  some (((72 * v0) + (12 * v1)) + v2)
abbrev rmK5_codeOf : Room := { frames := 0, cells := 0, slots := 0, locals := 0 }
set_option maxHeartbeats 4000000 in
set_option maxRecDepth 100000 in
theorem kK5_codeOf (l : Launch) (D : va_G) (cI cZ cB cC : ClassId) (sz : Nat) (v0 : Int32) (v1 : Int32) (v2 : Int32) (r0 : Int32) (hm : mK5_codeOf v0 v1 v2 = some r0) : Met l yK5_codeOf wsK5_codeOf rmK5_codeOf (va_Pc [.int v0, .int v1, .int v2] (Pr D (tyL cI cZ cB cC) sz [])) (QI D (va_A [] sz) r0 []) 0 0 (va_A [] sz) := by
  refine Met.ofW (cc := cK5_codeOf) (maxL := 3) (ret := (some .int)) (by decide) rfl ?_
  intro p e s m args below meth c s₁ B hml hv
  obtain ⟨rfl, hsz, hP, hK, hD0, hN⟩ := hv
  have hx := B.exec
  have hb := B.bytes
  have hr := B.returns
  have hts := htsA (atoms_spec (ws := wsK5_codeOf) B.pre)
  have hown : s.vm.findClass RK5 = some m.cls := findClass_of_methodNamed B.named
  have hlocks := B.notSynchronized
  subst hsz
  have hD := hD0.self (sz := s.heap.size)
  generalize hAe : va_A [] s.heap.size = A at hD ⊢
  have hA : ∀ q : Nat, s.heap.size ≤ q → A q := fun q h => by rw [← hAe]; exact Or.inr h
  refine kstart (A := A) hP (fun H hP hS => ?_)
  have hl := lv_entry ([.int v0, .int v1, .int v2]) (n := 3) (Nat.le_of_ble_eq_true rfl)
  rw [lg_entry_eq]
  generalize (lg_sl ([.int v0, .int v1, .int v2]) ++ List.replicate (3 - (lg_sl ([.int v0, .int v1, .int v2])).length) Slot.unset).toArray = ls at hl ⊢
  have hl : lv_has ls 3 [(0, .int v0), (1, .int v1), (2, .int v2)] := hl
  unfold mK5_codeOf at hm
  refine lv_bipush (v := 72) hx hb dK5_codeOf_0 (by decide) ?_
  refine lv_iload_n hx hb dK5_codeOf_2 rfl (lv_at hl 0 rfl) ?_
  refine lv_imul hx hb dK5_codeOf_3 ?_
  refine lv_bipush (v := 12) hx hb dK5_codeOf_4 (by decide) ?_
  refine lv_iload_n hx hb dK5_codeOf_6 rfl (lv_at hl 1 rfl) ?_
  refine lv_imul hx hb dK5_codeOf_7 ?_
  refine lv_iadd hx hb dK5_codeOf_8 ?_
  refine lv_iload_n hx hb dK5_codeOf_9 rfl (lv_at hl 2 rfl) ?_
  refine lv_iadd hx hb dK5_codeOf_10 ?_
  replace hm := Option.some.inj hm
  subst hm
  exact k_reti hx hb hr hlocks hP hD hS dK5_codeOf_11
def mK5_triple (m_there : Nat → Int32) (v1 : Int32) (v2 : Int32) (v3 : Int32) : Option (Int32 × (Nat → Int32)) :=
  bd1 (mK5_isTriple v1 v2 v3) fun x1 => if x1 = 0 then
  (some ((-1), m_there))
  else
  (bd1 (mK5_codeOf v1 v2 v3) fun x3 => bd1 (rd m_there 864 x3) fun x5 => bd1 (mK5_codeOf v1 v2 v3) fun x6 => bd1 (wrt m_there 864 x6 (vp_nar .boolean 1)) fun x8 => if x5 = 0 then
    (some (1, x8))
    else
    (some (0, x8)))
abbrev rmK5_triple : Room := { frames := 2, cells := 0, slots := 0, locals := 44 }
set_option maxHeartbeats 4000000 in
set_option maxRecDepth 100000 in
theorem kK5_triple (l : Launch) (D : va_G) (cI cZ cB cC : ClassId) (sz : Nat) (m_a : Nat) (m_there_a : Nat) (m_now_a : Nat) (m_kinds_a : Nat) (m_targets_a : Nat) (m_predicates_a : Nat) (m_numbers_a : Nat) (m_puts_a : Nat) (m_codes_a : Nat) (m_weights_a : Nat) (m_sets_a : Nat) (m_picks_a : Nat) (m_classes_a : Nat) (m_steps_a : Nat) (m_told_a : Nat) (m_rules : Int32) (m_changes : Int32) (m_mostTries : Int32) (m_tried : Int32) (m_settled : Int32) (m_found : Int32) (m_isCovered : Int32) (m_covered : Int32) (m_toldMany : Int32) (m_there : Nat → Int32) (m_now : Nat → Int32) (m_kinds : Nat → Int32) (m_targets : Nat → Int32) (m_predicates : Nat → Int32) (m_numbers : Nat → Int32) (m_puts : Nat → Int32) (m_codes : Nat → Int32) (m_weights : Nat → Int32) (m_sets : Nat → Int32) (m_picks : Nat → Int32) (m_classes : Nat → Int32) (m_steps : Nat → Int32) (m_told : Nat → Int32) (v1 : Int32) (v2 : Int32) (v3 : Int32) (r0 : Int32) (m_there_r : Nat → Int32) (hm : mK5_triple m_there v1 v2 v3 = some (r0, m_there_r)) : Met l yK5_triple wsK5_triple rmK5_triple (va_Pc [.ref m_a, .int v1, .int v2, .int v3] (Pr D (tyL cI cZ cB cC) sz (wX m_a m_there_a m_now_a m_kinds_a m_targets_a m_predicates_a m_numbers_a m_puts_a m_codes_a m_weights_a m_sets_a m_picks_a m_classes_a m_steps_a m_told_a cI cZ cB cC m_rules m_changes m_mostTries m_tried m_settled m_found m_isCovered m_covered m_toldMany m_there m_now m_kinds m_targets m_predicates m_numbers m_puts m_codes m_weights m_sets m_picks m_classes m_steps m_told))) (QI D (va_A (wX m_a m_there_a m_now_a m_kinds_a m_targets_a m_predicates_a m_numbers_a m_puts_a m_codes_a m_weights_a m_sets_a m_picks_a m_classes_a m_steps_a m_told_a cI cZ cB cC m_rules m_changes m_mostTries m_tried m_settled m_found m_isCovered m_covered m_toldMany m_there m_now m_kinds m_targets m_predicates m_numbers m_puts m_codes m_weights m_sets m_picks m_classes m_steps m_told) sz) r0 (wX m_a m_there_a m_now_a m_kinds_a m_targets_a m_predicates_a m_numbers_a m_puts_a m_codes_a m_weights_a m_sets_a m_picks_a m_classes_a m_steps_a m_told_a cI cZ cB cC m_rules m_changes m_mostTries m_tried m_settled m_found m_isCovered m_covered m_toldMany m_there_r m_now m_kinds m_targets m_predicates m_numbers m_puts m_codes m_weights m_sets m_picks m_classes m_steps m_told)) 0 0 (va_A (wX m_a m_there_a m_now_a m_kinds_a m_targets_a m_predicates_a m_numbers_a m_puts_a m_codes_a m_weights_a m_sets_a m_picks_a m_classes_a m_steps_a m_told_a cI cZ cB cC m_rules m_changes m_mostTries m_tried m_settled m_found m_isCovered m_covered m_toldMany m_there m_now m_kinds m_targets m_predicates m_numbers m_puts m_codes m_weights m_sets m_picks m_classes m_steps m_told) sz) := by
  refine Met.ofW (cc := cK5_triple) (maxL := 5) (ret := (some .int)) (by decide) rfl ?_
  intro p e s m args below meth c s₁ B hml hv
  obtain ⟨rfl, hsz, hP, hK, hD0, hN⟩ := hv
  have hx := B.exec
  have hb := B.bytes
  have hr := B.returns
  have hts := htsA (atoms_spec (ws := wsK5_triple) B.pre)
  have hown : s.vm.findClass RK5 = some m.cls := findClass_of_methodNamed B.named
  have hlocks := B.notSynchronized
  subst hsz
  have hD := hD0.self (sz := s.heap.size)
  generalize hAe : va_A (wX m_a m_there_a m_now_a m_kinds_a m_targets_a m_predicates_a m_numbers_a m_puts_a m_codes_a m_weights_a m_sets_a m_picks_a m_classes_a m_steps_a m_told_a cI cZ cB cC m_rules m_changes m_mostTries m_tried m_settled m_found m_isCovered m_covered m_toldMany m_there m_now m_kinds m_targets m_predicates m_numbers m_puts m_codes m_weights m_sets m_picks m_classes m_steps m_told) s.heap.size = A at hD ⊢
  have hA : ∀ q : Nat, s.heap.size ≤ q → A q := fun q h => by rw [← hAe]; exact Or.inr h
  refine kstart (A := A) hP (fun H hP hS => ?_)
  have hl := lv_entry ([.ref m_a, .int v1, .int v2, .int v3]) (n := 5) (Nat.le_of_ble_eq_true rfl)
  rw [lg_entry_eq]
  generalize (lg_sl ([.ref m_a, .int v1, .int v2, .int v3]) ++ List.replicate (5 - (lg_sl ([.ref m_a, .int v1, .int v2, .int v3])).length) Slot.unset).toArray = ls at hl ⊢
  have hl : lv_has ls 5 [(0, .ref m_a), (1, .int v1), (2, .int v2), (3, .int v3)] := hl
  unfold mK5_triple at hm
  refine lv_iload_n hx hb dK5_triple_0 rfl (lv_at hl 1 rfl) ?_
  refine lv_iload_n hx hb dK5_triple_1 rfl (lv_at hl 2 rfl) ?_
  refine lv_iload_n hx hb dK5_triple_2 rfl (lv_at hl 3 rfl) ?_
  obtain ⟨x1, ec2, hm⟩ := bd1_s hm
  have hPc : va_P D vwCl [] H := va_P0
  have hDc : va_D A [] := va_D0
  refine k_calli0 (va_runS (As := [.int v1, .int v2, .int v3]) (rest := []) ⟨hx, hb, hml, hown, hts⟩ (kK5_isTriple l D cI cZ cB cC H.size v1 v2 v3 x1 ec2) (va_cwS 3 hts (gdS wdt4_20 wdt4_21 wdt1_10 gkK5_isTriple) rfl rfl rfl (by decide +kernel) ⟨Nat.le_of_ble_eq_true rfl, Nat.le_of_ble_eq_true rfl⟩) ⟨Pr_blind, fun U hU hW => ⟨rfl, Pr_at hK hN hPc hDc hU hW⟩⟩ rfl rfl hl.1 rfl (lv_room (Nat.le_of_ble_eq_true rfl)) dK5_triple_3 ⟨Nat.le_of_ble_eq_true rfl, Nat.le_of_ble_eq_true rfl⟩) hP hD hS hA (fun H locs hP hD hS => ?_)
  refine lv_if_ne (tgt := 11) hx hb dK5_triple_6 (by decide) (fun hc => ?_) (fun hc => ?_)
  · replace hm := iff_ hm hc
    refine lv_aload_n hx hb dK5_triple_11 rfl (lv_at hl 0 rfl) ?_
    refine va_get (D := D) (ci := 5) (v := .ref m_there_a) (C := RK5) (T := TK5) (N := 23) hx hb hts inK5 hown hK hP 0 rfl rfl 0 (by decide) (hts _ wdt3_186) (fun _ h9 => h9) rfl dK5_triple_12 ?_
    refine lv_iload_n hx hb dK5_triple_15 rfl (lv_at hl 1 rfl) ?_
    refine lv_iload_n hx hb dK5_triple_16 rfl (lv_at hl 2 rfl) ?_
    refine lv_iload_n hx hb dK5_triple_17 rfl (lv_at hl 3 rfl) ?_
    obtain ⟨x3, ec4, hm⟩ := bd1_s hm
    have hPc : va_P D vwCl [] H := va_P0
    have hDc : va_D A [] := va_D0
    refine k_calli0 (va_runS (As := [.int v1, .int v2, .int v3]) (rest := [.ref m_there_a]) ⟨hx, hb, hml, hown, hts⟩ (kK5_codeOf l D cI cZ cB cC H.size v1 v2 v3 x3 ec4) (va_cwS 3 hts (gdS wdt4_26 wdt4_27 wdt1_10 gkK5_codeOf) rfl rfl rfl (by decide +kernel) ⟨Nat.le_of_ble_eq_true rfl, Nat.le_of_ble_eq_true rfl⟩) ⟨Pr_blind, fun U hU hW => ⟨rfl, Pr_at hK hN hPc hDc hU hW⟩⟩ rfl rfl hl.1 rfl (lv_room (Nat.le_of_ble_eq_true rfl)) dK5_triple_18 ⟨Nat.le_of_ble_eq_true rfl, Nat.le_of_ble_eq_true rfl⟩) hP hD hS hA (fun H locs hP hD hS => ?_)
    obtain ⟨x5, ex5, hm⟩ := bd1_s hm
    obtain ⟨hix5, ex5⟩ := rd_s ex5
    refine va_zald hx hb hK hP 1 1 rfl rfl hix5 dK5_triple_21 ?_
    refine topi ex5 ?_
    refine lv_istore (lv' := [(4, .int x5), (0, .ref m_a), (1, .int v1), (2, .int v2), (3, .int v3)]) hx hb dK5_triple_22 hl (by decide) rfl (fun ls hl => ?_)
    refine lv_aload_n hx hb dK5_triple_24 rfl (lv_at hl 1 rfl) ?_
    refine va_get (D := D) (ci := 5) (v := .ref m_there_a) (C := RK5) (T := TK5) (N := 23) hx hb hts inK5 hown hK hP 0 rfl rfl 0 (by decide) (hts _ wdt3_186) (fun _ h9 => h9) rfl dK5_triple_25 ?_
    refine lv_iload_n hx hb dK5_triple_28 rfl (lv_at hl 2 rfl) ?_
    refine lv_iload_n hx hb dK5_triple_29 rfl (lv_at hl 3 rfl) ?_
    refine lv_iload_n hx hb dK5_triple_30 rfl (lv_at hl 4 rfl) ?_
    obtain ⟨x6, ec7, hm⟩ := bd1_s hm
    have hPc : va_P D vwCl [] H := va_P0
    have hDc : va_D A [] := va_D0
    refine k_calli0 (va_runS (As := [.int v1, .int v2, .int v3]) (rest := [.ref m_there_a]) ⟨hx, hb, hml, hown, hts⟩ (kK5_codeOf l D cI cZ cB cC H.size v1 v2 v3 x6 ec7) (va_cwS 3 hts (gdS wdt4_26 wdt4_27 wdt1_10 gkK5_codeOf) rfl rfl rfl (by decide +kernel) ⟨Nat.le_of_ble_eq_true rfl, Nat.le_of_ble_eq_true rfl⟩) ⟨Pr_blind, fun U hU hW => ⟨rfl, Pr_at hK hN hPc hDc hU hW⟩⟩ rfl rfl hl.1 rfl (lv_room (Nat.le_of_ble_eq_true rfl)) dK5_triple_31 ⟨Nat.le_of_ble_eq_true rfl, Nat.le_of_ble_eq_true rfl⟩) hP hD hS hA (fun H locs hP hD hS => ?_)
    refine lv_iconst (v := 1) hx hb dK5_triple_34 (by decide) ?_
    obtain ⟨x8, ex8, hm⟩ := bd1_s hm
    obtain ⟨hix8, ex8⟩ := wrt_s ex8
    refine va_zast hx hb hK hP hD hS 1 1 rfl rfl hix8 dK5_triple_35 (fun H locs hP hD hS => ?_)
    rw [ex8] at hP hD
    have hP : va_P D vwCl (wX m_a m_there_a m_now_a m_kinds_a m_targets_a m_predicates_a m_numbers_a m_puts_a m_codes_a m_weights_a m_sets_a m_picks_a m_classes_a m_steps_a m_told_a cI cZ cB cC m_rules m_changes m_mostTries m_tried m_settled m_found m_isCovered m_covered m_toldMany x8 m_now m_kinds m_targets m_predicates m_numbers m_puts m_codes m_weights m_sets m_picks m_classes m_steps m_told) H := hP
    have hD : va_D A (wX m_a m_there_a m_now_a m_kinds_a m_targets_a m_predicates_a m_numbers_a m_puts_a m_codes_a m_weights_a m_sets_a m_picks_a m_classes_a m_steps_a m_told_a cI cZ cB cC m_rules m_changes m_mostTries m_tried m_settled m_found m_isCovered m_covered m_toldMany x8 m_now m_kinds m_targets m_predicates m_numbers m_puts m_codes m_weights m_sets m_picks m_classes m_steps m_told) := hD
    refine lv_iload hx hb dK5_triple_36 (lv_at hl 0 rfl) ?_
    refine lv_if_eq (tgt := 45) hx hb dK5_triple_38 (by decide) (fun hc => ?_) (fun hc => ?_)
    · replace hm := ift hm hc
      refine lv_iconst (v := 1) hx hb dK5_triple_45 (by decide) ?_
      replace hm := Option.some.inj hm
      simp only [Prod.mk.injEq] at hm
      obtain ⟨rfl, rfl⟩ := hm
      exact k_reti hx hb hr hlocks hP hD hS dK5_triple_46
    · replace hm := iff_ hm hc
      refine lv_iconst (v := 0) hx hb dK5_triple_41 (by decide) ?_
      refine lv_goto (tgt := 46) hx hb dK5_triple_42 (by decide) ?_
      replace hm := Option.some.inj hm
      simp only [Prod.mk.injEq] at hm
      obtain ⟨rfl, rfl⟩ := hm
      exact k_reti hx hb hr hlocks hP hD hS dK5_triple_46
  · replace hm := ift hm hc
    refine lv_iconst (v := (-1)) hx hb dK5_triple_9 (by decide) ?_
    replace hm := Option.some.inj hm
    simp only [Prod.mk.injEq] at hm
    obtain ⟨rfl, rfl⟩ := hm
    exact k_reti hx hb hr hlocks hP hD hS dK5_triple_10
def mK5_drop (m_there : Nat → Int32) (v1 : Int32) (v2 : Int32) (v3 : Int32) : Option (Int32 × (Nat → Int32)) :=
  bd1 (mK5_isTriple v1 v2 v3) fun x1 => if x1 = 0 then
  (some ((-1), m_there))
  else
  (bd1 (mK5_codeOf v1 v2 v3) fun x3 => bd1 (rd m_there 864 x3) fun x5 => bd1 (mK5_codeOf v1 v2 v3) fun x6 => bd1 (wrt m_there 864 x6 (vp_nar .boolean 0)) fun x8 => if x5 = 0 then
    (some (0, x8))
    else
    (some (1, x8)))
abbrev rmK5_drop : Room := { frames := 2, cells := 0, slots := 0, locals := 44 }
set_option maxHeartbeats 4000000 in
set_option maxRecDepth 100000 in
theorem kK5_drop (l : Launch) (D : va_G) (cI cZ cB cC : ClassId) (sz : Nat) (m_a : Nat) (m_there_a : Nat) (m_now_a : Nat) (m_kinds_a : Nat) (m_targets_a : Nat) (m_predicates_a : Nat) (m_numbers_a : Nat) (m_puts_a : Nat) (m_codes_a : Nat) (m_weights_a : Nat) (m_sets_a : Nat) (m_picks_a : Nat) (m_classes_a : Nat) (m_steps_a : Nat) (m_told_a : Nat) (m_rules : Int32) (m_changes : Int32) (m_mostTries : Int32) (m_tried : Int32) (m_settled : Int32) (m_found : Int32) (m_isCovered : Int32) (m_covered : Int32) (m_toldMany : Int32) (m_there : Nat → Int32) (m_now : Nat → Int32) (m_kinds : Nat → Int32) (m_targets : Nat → Int32) (m_predicates : Nat → Int32) (m_numbers : Nat → Int32) (m_puts : Nat → Int32) (m_codes : Nat → Int32) (m_weights : Nat → Int32) (m_sets : Nat → Int32) (m_picks : Nat → Int32) (m_classes : Nat → Int32) (m_steps : Nat → Int32) (m_told : Nat → Int32) (v1 : Int32) (v2 : Int32) (v3 : Int32) (r0 : Int32) (m_there_r : Nat → Int32) (hm : mK5_drop m_there v1 v2 v3 = some (r0, m_there_r)) : Met l yK5_drop wsK5_drop rmK5_drop (va_Pc [.ref m_a, .int v1, .int v2, .int v3] (Pr D (tyL cI cZ cB cC) sz (wX m_a m_there_a m_now_a m_kinds_a m_targets_a m_predicates_a m_numbers_a m_puts_a m_codes_a m_weights_a m_sets_a m_picks_a m_classes_a m_steps_a m_told_a cI cZ cB cC m_rules m_changes m_mostTries m_tried m_settled m_found m_isCovered m_covered m_toldMany m_there m_now m_kinds m_targets m_predicates m_numbers m_puts m_codes m_weights m_sets m_picks m_classes m_steps m_told))) (QI D (va_A (wX m_a m_there_a m_now_a m_kinds_a m_targets_a m_predicates_a m_numbers_a m_puts_a m_codes_a m_weights_a m_sets_a m_picks_a m_classes_a m_steps_a m_told_a cI cZ cB cC m_rules m_changes m_mostTries m_tried m_settled m_found m_isCovered m_covered m_toldMany m_there m_now m_kinds m_targets m_predicates m_numbers m_puts m_codes m_weights m_sets m_picks m_classes m_steps m_told) sz) r0 (wX m_a m_there_a m_now_a m_kinds_a m_targets_a m_predicates_a m_numbers_a m_puts_a m_codes_a m_weights_a m_sets_a m_picks_a m_classes_a m_steps_a m_told_a cI cZ cB cC m_rules m_changes m_mostTries m_tried m_settled m_found m_isCovered m_covered m_toldMany m_there_r m_now m_kinds m_targets m_predicates m_numbers m_puts m_codes m_weights m_sets m_picks m_classes m_steps m_told)) 0 0 (va_A (wX m_a m_there_a m_now_a m_kinds_a m_targets_a m_predicates_a m_numbers_a m_puts_a m_codes_a m_weights_a m_sets_a m_picks_a m_classes_a m_steps_a m_told_a cI cZ cB cC m_rules m_changes m_mostTries m_tried m_settled m_found m_isCovered m_covered m_toldMany m_there m_now m_kinds m_targets m_predicates m_numbers m_puts m_codes m_weights m_sets m_picks m_classes m_steps m_told) sz) := by
  refine Met.ofW (cc := cK5_drop) (maxL := 5) (ret := (some .int)) (by decide) rfl ?_
  intro p e s m args below meth c s₁ B hml hv
  obtain ⟨rfl, hsz, hP, hK, hD0, hN⟩ := hv
  have hx := B.exec
  have hb := B.bytes
  have hr := B.returns
  have hts := htsA (atoms_spec (ws := wsK5_drop) B.pre)
  have hown : s.vm.findClass RK5 = some m.cls := findClass_of_methodNamed B.named
  have hlocks := B.notSynchronized
  subst hsz
  have hD := hD0.self (sz := s.heap.size)
  generalize hAe : va_A (wX m_a m_there_a m_now_a m_kinds_a m_targets_a m_predicates_a m_numbers_a m_puts_a m_codes_a m_weights_a m_sets_a m_picks_a m_classes_a m_steps_a m_told_a cI cZ cB cC m_rules m_changes m_mostTries m_tried m_settled m_found m_isCovered m_covered m_toldMany m_there m_now m_kinds m_targets m_predicates m_numbers m_puts m_codes m_weights m_sets m_picks m_classes m_steps m_told) s.heap.size = A at hD ⊢
  have hA : ∀ q : Nat, s.heap.size ≤ q → A q := fun q h => by rw [← hAe]; exact Or.inr h
  refine kstart (A := A) hP (fun H hP hS => ?_)
  have hl := lv_entry ([.ref m_a, .int v1, .int v2, .int v3]) (n := 5) (Nat.le_of_ble_eq_true rfl)
  rw [lg_entry_eq]
  generalize (lg_sl ([.ref m_a, .int v1, .int v2, .int v3]) ++ List.replicate (5 - (lg_sl ([.ref m_a, .int v1, .int v2, .int v3])).length) Slot.unset).toArray = ls at hl ⊢
  have hl : lv_has ls 5 [(0, .ref m_a), (1, .int v1), (2, .int v2), (3, .int v3)] := hl
  unfold mK5_drop at hm
  refine lv_iload_n hx hb dK5_drop_0 rfl (lv_at hl 1 rfl) ?_
  refine lv_iload_n hx hb dK5_drop_1 rfl (lv_at hl 2 rfl) ?_
  refine lv_iload_n hx hb dK5_drop_2 rfl (lv_at hl 3 rfl) ?_
  obtain ⟨x1, ec2, hm⟩ := bd1_s hm
  have hPc : va_P D vwCl [] H := va_P0
  have hDc : va_D A [] := va_D0
  refine k_calli0 (va_runS (As := [.int v1, .int v2, .int v3]) (rest := []) ⟨hx, hb, hml, hown, hts⟩ (kK5_isTriple l D cI cZ cB cC H.size v1 v2 v3 x1 ec2) (va_cwS 3 hts (gdS wdt4_20 wdt4_21 wdt1_10 gkK5_isTriple) rfl rfl rfl (by decide +kernel) ⟨Nat.le_of_ble_eq_true rfl, Nat.le_of_ble_eq_true rfl⟩) ⟨Pr_blind, fun U hU hW => ⟨rfl, Pr_at hK hN hPc hDc hU hW⟩⟩ rfl rfl hl.1 rfl (lv_room (Nat.le_of_ble_eq_true rfl)) dK5_drop_3 ⟨Nat.le_of_ble_eq_true rfl, Nat.le_of_ble_eq_true rfl⟩) hP hD hS hA (fun H locs hP hD hS => ?_)
  refine lv_if_ne (tgt := 11) hx hb dK5_drop_6 (by decide) (fun hc => ?_) (fun hc => ?_)
  · replace hm := iff_ hm hc
    refine lv_aload_n hx hb dK5_drop_11 rfl (lv_at hl 0 rfl) ?_
    refine va_get (D := D) (ci := 5) (v := .ref m_there_a) (C := RK5) (T := TK5) (N := 23) hx hb hts inK5 hown hK hP 0 rfl rfl 0 (by decide) (hts _ wdt3_186) (fun _ h9 => h9) rfl dK5_drop_12 ?_
    refine lv_iload_n hx hb dK5_drop_15 rfl (lv_at hl 1 rfl) ?_
    refine lv_iload_n hx hb dK5_drop_16 rfl (lv_at hl 2 rfl) ?_
    refine lv_iload_n hx hb dK5_drop_17 rfl (lv_at hl 3 rfl) ?_
    obtain ⟨x3, ec4, hm⟩ := bd1_s hm
    have hPc : va_P D vwCl [] H := va_P0
    have hDc : va_D A [] := va_D0
    refine k_calli0 (va_runS (As := [.int v1, .int v2, .int v3]) (rest := [.ref m_there_a]) ⟨hx, hb, hml, hown, hts⟩ (kK5_codeOf l D cI cZ cB cC H.size v1 v2 v3 x3 ec4) (va_cwS 3 hts (gdS wdt4_26 wdt4_27 wdt1_10 gkK5_codeOf) rfl rfl rfl (by decide +kernel) ⟨Nat.le_of_ble_eq_true rfl, Nat.le_of_ble_eq_true rfl⟩) ⟨Pr_blind, fun U hU hW => ⟨rfl, Pr_at hK hN hPc hDc hU hW⟩⟩ rfl rfl hl.1 rfl (lv_room (Nat.le_of_ble_eq_true rfl)) dK5_drop_18 ⟨Nat.le_of_ble_eq_true rfl, Nat.le_of_ble_eq_true rfl⟩) hP hD hS hA (fun H locs hP hD hS => ?_)
    obtain ⟨x5, ex5, hm⟩ := bd1_s hm
    obtain ⟨hix5, ex5⟩ := rd_s ex5
    refine va_zald hx hb hK hP 1 1 rfl rfl hix5 dK5_drop_21 ?_
    refine topi ex5 ?_
    refine lv_istore (lv' := [(4, .int x5), (0, .ref m_a), (1, .int v1), (2, .int v2), (3, .int v3)]) hx hb dK5_drop_22 hl (by decide) rfl (fun ls hl => ?_)
    refine lv_aload_n hx hb dK5_drop_24 rfl (lv_at hl 1 rfl) ?_
    refine va_get (D := D) (ci := 5) (v := .ref m_there_a) (C := RK5) (T := TK5) (N := 23) hx hb hts inK5 hown hK hP 0 rfl rfl 0 (by decide) (hts _ wdt3_186) (fun _ h9 => h9) rfl dK5_drop_25 ?_
    refine lv_iload_n hx hb dK5_drop_28 rfl (lv_at hl 2 rfl) ?_
    refine lv_iload_n hx hb dK5_drop_29 rfl (lv_at hl 3 rfl) ?_
    refine lv_iload_n hx hb dK5_drop_30 rfl (lv_at hl 4 rfl) ?_
    obtain ⟨x6, ec7, hm⟩ := bd1_s hm
    have hPc : va_P D vwCl [] H := va_P0
    have hDc : va_D A [] := va_D0
    refine k_calli0 (va_runS (As := [.int v1, .int v2, .int v3]) (rest := [.ref m_there_a]) ⟨hx, hb, hml, hown, hts⟩ (kK5_codeOf l D cI cZ cB cC H.size v1 v2 v3 x6 ec7) (va_cwS 3 hts (gdS wdt4_26 wdt4_27 wdt1_10 gkK5_codeOf) rfl rfl rfl (by decide +kernel) ⟨Nat.le_of_ble_eq_true rfl, Nat.le_of_ble_eq_true rfl⟩) ⟨Pr_blind, fun U hU hW => ⟨rfl, Pr_at hK hN hPc hDc hU hW⟩⟩ rfl rfl hl.1 rfl (lv_room (Nat.le_of_ble_eq_true rfl)) dK5_drop_31 ⟨Nat.le_of_ble_eq_true rfl, Nat.le_of_ble_eq_true rfl⟩) hP hD hS hA (fun H locs hP hD hS => ?_)
    refine lv_iconst (v := 0) hx hb dK5_drop_34 (by decide) ?_
    obtain ⟨x8, ex8, hm⟩ := bd1_s hm
    obtain ⟨hix8, ex8⟩ := wrt_s ex8
    refine va_zast hx hb hK hP hD hS 1 1 rfl rfl hix8 dK5_drop_35 (fun H locs hP hD hS => ?_)
    rw [ex8] at hP hD
    have hP : va_P D vwCl (wX m_a m_there_a m_now_a m_kinds_a m_targets_a m_predicates_a m_numbers_a m_puts_a m_codes_a m_weights_a m_sets_a m_picks_a m_classes_a m_steps_a m_told_a cI cZ cB cC m_rules m_changes m_mostTries m_tried m_settled m_found m_isCovered m_covered m_toldMany x8 m_now m_kinds m_targets m_predicates m_numbers m_puts m_codes m_weights m_sets m_picks m_classes m_steps m_told) H := hP
    have hD : va_D A (wX m_a m_there_a m_now_a m_kinds_a m_targets_a m_predicates_a m_numbers_a m_puts_a m_codes_a m_weights_a m_sets_a m_picks_a m_classes_a m_steps_a m_told_a cI cZ cB cC m_rules m_changes m_mostTries m_tried m_settled m_found m_isCovered m_covered m_toldMany x8 m_now m_kinds m_targets m_predicates m_numbers m_puts m_codes m_weights m_sets m_picks m_classes m_steps m_told) := hD
    refine lv_iload hx hb dK5_drop_36 (lv_at hl 0 rfl) ?_
    refine lv_if_eq (tgt := 45) hx hb dK5_drop_38 (by decide) (fun hc => ?_) (fun hc => ?_)
    · replace hm := ift hm hc
      refine lv_iconst (v := 0) hx hb dK5_drop_45 (by decide) ?_
      replace hm := Option.some.inj hm
      simp only [Prod.mk.injEq] at hm
      obtain ⟨rfl, rfl⟩ := hm
      exact k_reti hx hb hr hlocks hP hD hS dK5_drop_46
    · replace hm := iff_ hm hc
      refine lv_iconst (v := 1) hx hb dK5_drop_41 (by decide) ?_
      refine lv_goto (tgt := 46) hx hb dK5_drop_42 (by decide) ?_
      replace hm := Option.some.inj hm
      simp only [Prod.mk.injEq] at hm
      obtain ⟨rfl, rfl⟩ := hm
      exact k_reti hx hb hr hlocks hP hD hS dK5_drop_46
  · replace hm := ift hm hc
    refine lv_iconst (v := (-1)) hx hb dK5_drop_9 (by decide) ?_
    replace hm := Option.some.inj hm
    simp only [Prod.mk.injEq] at hm
    obtain ⟨rfl, rfl⟩ := hm
    exact k_reti hx hb hr hlocks hP hD hS dK5_drop_10
