def mK0_offer (chn : Int32) (chpu : Nat → Int32) (chco : Nat → Int32) (chwe : Nat → Int32) (v1 : Int32) (v2 : Int32) (v3 : Int32) (v4 : Int32) : Option (Int32 × (Nat → Int32) × (Nat → Int32) × (Nat → Int32)) :=
  bd1 (mK0_codeOf v2 v3 v4) fun x1 => bd5 (mK3_add chn chpu chco chwe v1 x1 1) fun x3 x4 x5 x6 x7 => some (x4, x5, x6, x7)
abbrev rmK0_offer : Room := { frames := 1, cells := 0, slots := 0, locals := 24 }
set_option maxHeartbeats 4000000 in
set_option maxRecDepth 100000 in
theorem kK0_offer (l : Launch) (D : va_G) (cI cZ cB cC : ClassId) (sz : Nat) (oa : Nat) (tra : Nat) (tra1 : Nat) (tra2 : Nat) (tra3 : Nat) (tia : Nat) (tia1 : Nat) (tia2 : Nat) (tia3 : Nat) (rua : Nat) (rua1 : Nat) (rua2 : Nat) (rua3 : Nat) (rua4 : Nat) (cha : Nat) (cha1 : Nat) (cha2 : Nat) (cha3 : Nat) (foa : Nat) (foa1 : Nat) (foa2 : Nat) (sba : Nat) (ocs : Int32) (oal : Int32) (olt : Int32) (ols : Int32) (trso : Int32) (trob : Nat → Int32) (trme : Nat → Int32) (trwi : Nat → Int32) (tiso : Int32) (tiob : Nat → Int32) (time : Nat → Int32) (tiwi : Nat → Int32) (run : Int32) (ruki : Nat → Int32) (ruta : Nat → Int32) (rupr : Nat → Int32) (runu : Nat → Int32) (chn : Int32) (chpu : Nat → Int32) (chco : Nat → Int32) (chwe : Nat → Int32) (fon : Int32) (fose : Nat → Int32) (fosu : Nat → Int32) (v1 : Int32) (v2 : Int32) (v3 : Int32) (v4 : Int32) (chn_r : Int32) (chpu_r : Nat → Int32) (chco_r : Nat → Int32) (chwe_r : Nat → Int32) (hm : mK0_offer chn chpu chco chwe v1 v2 v3 v4 = some (chn_r, chpu_r, chco_r, chwe_r)) : Met l yK0_offer wsK0_offer rmK0_offer (va_Pc [.ref oa, .int v1, .int v2, .int v3, .int v4] (Pr D (tyL cI cZ cB cC) sz (wM oa tra tra1 tra2 tra3 tia tia1 tia2 tia3 rua rua1 rua2 rua3 rua4 cha cha1 cha2 cha3 foa foa1 foa2 sba cI cZ cB cC ocs oal olt ols trso trob trme trwi tiso tiob time tiwi run ruki ruta rupr runu chn chpu chco chwe fon fose fosu))) (QV D (va_A (wM oa tra tra1 tra2 tra3 tia tia1 tia2 tia3 rua rua1 rua2 rua3 rua4 cha cha1 cha2 cha3 foa foa1 foa2 sba cI cZ cB cC ocs oal olt ols trso trob trme trwi tiso tiob time tiwi run ruki ruta rupr runu chn chpu chco chwe fon fose fosu) sz) (wM oa tra tra1 tra2 tra3 tia tia1 tia2 tia3 rua rua1 rua2 rua3 rua4 cha cha1 cha2 cha3 foa foa1 foa2 sba cI cZ cB cC ocs oal olt ols trso trob trme trwi tiso tiob time tiwi run ruki ruta rupr runu chn_r chpu_r chco_r chwe_r fon fose fosu)) 0 0 (va_A (wM oa tra tra1 tra2 tra3 tia tia1 tia2 tia3 rua rua1 rua2 rua3 rua4 cha cha1 cha2 cha3 foa foa1 foa2 sba cI cZ cB cC ocs oal olt ols trso trob trme trwi tiso tiob time tiwi run ruki ruta rupr runu chn chpu chco chwe fon fose fosu) sz) := by
  refine Met.ofW (cc := cK0_offer) (maxL := 5) (ret := none) (by decide) rfl ?_
  intro p e s m args below meth c s₁ B hml hv
  obtain ⟨rfl, hsz, hP, hK, hD0, hN⟩ := hv
  have hx := B.exec
  have hb := B.bytes
  have hr := B.returns
  have hts := htsA (atoms_spec (ws := wsK0_offer) B.pre)
  have hown : s.vm.findClass RK0 = some m.cls := findClass_of_methodNamed B.named
  have hlocks := B.notSynchronized
  subst hsz
  have hD := hD0.self (sz := s.heap.size)
  generalize hAe : va_A (wM oa tra tra1 tra2 tra3 tia tia1 tia2 tia3 rua rua1 rua2 rua3 rua4 cha cha1 cha2 cha3 foa foa1 foa2 sba cI cZ cB cC ocs oal olt ols trso trob trme trwi tiso tiob time tiwi run ruki ruta rupr runu chn chpu chco chwe fon fose fosu) s.heap.size = A at hD ⊢
  have hA : ∀ q : Nat, s.heap.size ≤ q → A q := fun q h => by rw [← hAe]; exact Or.inr h
  refine kstart (A := A) hP (fun H hP hS => ?_)
  have hl := lv_entry ([.ref oa, .int v1, .int v2, .int v3, .int v4]) (n := 5) (Nat.le_of_ble_eq_true rfl)
  rw [lg_entry_eq]
  generalize (lg_sl ([.ref oa, .int v1, .int v2, .int v3, .int v4]) ++ List.replicate (5 - (lg_sl ([.ref oa, .int v1, .int v2, .int v3, .int v4])).length) Slot.unset).toArray = ls at hl ⊢
  have hl : lv_has ls 5 [(0, .ref oa), (1, .int v1), (2, .int v2), (3, .int v3), (4, .int v4)] := hl
  unfold mK0_offer at hm
  refine lv_aload_n hx hb dK0_offer_0 rfl (lv_at hl 0 rfl) ?_
  refine va_get (D := D) (ci := 0) (v := .ref cha) (C := RK0) (T := TK0) (N := 10) hx hb hts inK0 hown hK hP 0 rfl rfl 3 (by decide) (hts _ wdt1_146) (fun _ h9 => h9) rfl dK0_offer_1 ?_
  refine lv_iload_n hx hb dK0_offer_4 rfl (lv_at hl 1 rfl) ?_
  refine lv_iload_n hx hb dK0_offer_5 rfl (lv_at hl 2 rfl) ?_
  refine lv_iload_n hx hb dK0_offer_6 rfl (lv_at hl 3 rfl) ?_
  refine lv_iload hx hb dK0_offer_7 (lv_at hl 4 rfl) ?_
  obtain ⟨x1, ec2, hm⟩ := bd1_s hm
  have hPc : va_P D vwCl [] H := va_P0
  have hDc : va_D A [] := va_D0
  refine k_calli0 (va_runS (As := [.int v2, .int v3, .int v4]) (rest := [.int v1, .ref cha]) ⟨hx, hb, hml, hown, hts⟩ (kK0_codeOf l D cI cZ cB cC H.size v2 v3 v4 x1 ec2) (va_cwS 3 hts (gdS wdt1_202 wdt1_203 wdt1_1 gkK0_codeOf) rfl rfl rfl (by decide +kernel) ⟨Nat.le_of_ble_eq_true rfl, Nat.le_of_ble_eq_true rfl⟩) ⟨Pr_blind, fun U hU hW => ⟨rfl, Pr_at hK hN hPc hDc hU hW⟩⟩ rfl rfl hl.1 rfl (lv_room (Nat.le_of_ble_eq_true rfl)) dK0_offer_9 ⟨Nat.le_of_ble_eq_true rfl, Nat.le_of_ble_eq_true rfl⟩) hP hD hS hA (fun H locs hP hD hS => ?_)
  refine lv_iconst (v := 1) hx hb dK0_offer_12 (by decide) ?_
  obtain ⟨x3, x4, x5, x6, x7, ec8, hm⟩ := bd5_s hm
  have hPc := hP.sub (ws' := (wC cha cha1 cha2 cha3 cI cZ cB cC chn chpu chco chwe)) [14, 15, 16, 17] rfl
  have hDc := hD.sub (ws' := (wC cha cha1 cha2 cha3 cI cZ cB cC chn chpu chco chwe)) [14, 15, 16, 17] (by decide) rfl
  refine k_calli (wr := [(oa, .inr (0, [.ref tra, .ref tia, .ref rua, .ref cha, .ref foa, .ref sba, .int ocs, .int oal, .int olt, .int ols])), (tra, .inr (1, [.ref tra1, .ref tra2, .ref tra3, .int trso])), (tra1, .inl (cI, 72, .inl trob)), (tra2, .inl (cI, 12, .inl trme)), (tra3, .inl (cI, 12, .inl trwi)), (tia, .inr (1, [.ref tia1, .ref tia2, .ref tia3, .int tiso])), (tia1, .inl (cI, 72, .inl tiob)), (tia2, .inl (cI, 12, .inl time)), (tia3, .inl (cI, 12, .inl tiwi)), (rua, .inr (2, [.ref rua1, .ref rua2, .ref rua3, .ref rua4, .int run])), (rua1, .inl (cI, 10, .inl ruki)), (rua2, .inl (cI, 10, .inl ruta)), (rua3, .inl (cI, 10, .inl rupr)), (rua4, .inl (cI, 10, .inl runu)), (foa, .inr (4, [.ref foa1, .ref foa2, .int fon])), (foa1, .inl (cI, 30, .inl fose)), (foa2, .inl (cI, 30, .inl fosu))]) (w1 := (wC cha cha1 cha2 cha3 cI cZ cB cC x4 x5 x6 x7)) (ws' := (wM oa tra tra1 tra2 tra3 tia tia1 tia2 tia3 rua rua1 rua2 rua3 rua4 cha cha1 cha2 cha3 foa foa1 foa2 sba cI cZ cB cC ocs oal olt ols trso trob trme trwi tiso tiob time tiwi run ruki ruta rupr runu x4 x5 x6 x7 fon fose fosu)) (va_runV (As := [.int v1, .int x1, .int 1]) (rest := []) ⟨hx, hb, hml, hown, hts⟩ (kK3_add l D cI cZ cB cC H.size cha cha1 cha2 cha3 chn chpu chco chwe v1 x1 1 x3 x4 x5 x6 x7 ec8) (cwV 3 hts (gdV wdt2_71 wdt2_72 wdt2_73 wdt1_4 gkK3_add) rfl rfl rfl (by decide +kernel) ⟨Nat.le_of_ble_eq_true rfl, Nat.le_of_ble_eq_true rfl⟩) ⟨Pr_blind, va_recv hK hPc (ci := 3) (q0 := 0) rfl rfl, fun U hU hW => ⟨rfl, Pr_at hK hN hPc hDc hU hW⟩⟩ rfl rfl hl.1 rfl (lv_room (Nat.le_of_ble_eq_true rfl)) dK0_offer_13 ⟨Nat.le_of_ble_eq_true rfl, Nat.le_of_ble_eq_true rfl⟩) hP hD hS hA [14, 15, 16, 17] [0, 1, 2, 3, 4, 5, 6, 7, 8, 9, 10, 11, 12, 13, 18, 19, 20] [0, 1, 2, 3, 4, 5, 6, 7, 8, 9, 10, 11, 12, 13, 17, 18, 19, 20, 14, 15, 16] rfl rfl (by decide) (by decide) (by decide) rfl (fun H locs hP hD hS => ?_)
  refine lv_pop hx hb dK0_offer_16 rfl ?_
  replace hm := Option.some.inj hm
  simp only [Prod.mk.injEq] at hm
  obtain ⟨rfl, rfl, rfl, rfl⟩ := hm
  exact k_retv hx hb hr hlocks hP hD hS dK0_offer_17
def mK0_offerAbout (trob : Nat → Int32) (trme : Nat → Int32) (ruki : Nat → Int32) (rupr : Nat → Int32) (runu : Nat → Int32) (chn : Int32) (chpu : Nat → Int32) (chco : Nat → Int32) (chwe : Nat → Int32) (v1 : Int32) (v2 : Int32) (v3 : Int32) : Option (Int32 × (Nat → Int32) × (Nat → Int32) × (Nat → Int32)) :=
  bd1 (rd rupr 10 v1) fun x1 => bd1 (rd runu 10 v1) fun x2 => bd1 (mK1_has trob v2 x1 v3) fun x3 => bd1 (rd ruki 10 v1) fun x5 => if x5 = 0 then
  (if x3 = 0 then
    (bd4 (mK0_offer chn chpu chco chwe 1 v2 x1 v3) fun x6 x7 x8 x9 => some (x6, x7, x8, x9))
    else
    (some (chn, chpu, chco, chwe)))
  else
  (if x5 = 1 then
  (if x3 = 0 then
    (some (chn, chpu, chco, chwe))
    else
    (bd4 (mK0_offer chn chpu chco chwe 0 v2 x1 v3) fun x11 x12 x13 x14 => some (x11, x12, x13, x14)))
  else
  (if x5 = 2 then
  (if x3 = 0 then
    (some (chn, chpu, chco, chwe))
    else
    (bd1 (mK1_isMember trme v3 x2) fun x16 => if x16 = 0 then
      (bd4 (mK0_offer chn chpu chco chwe 0 v2 x1 v3) fun x18 x19 x20 x21 => bd4 (mK0_offer x18 x19 x20 x21 1 v3 0 x2) fun x23 x24 x25 x26 => some (x23, x24, x25, x26))
      else
      (some (chn, chpu, chco, chwe))))
  else
  (if x5 = 3 then
  (if x3 = 0 then
    (some (chn, chpu, chco, chwe))
    else
    (if v3 = x2 then
      (bd4 (mK0_offer chn chpu chco chwe 0 v2 x1 v3) fun x28 x29 x30 x31 => some (x28, x29, x30, x31))
      else
      (some (chn, chpu, chco, chwe))))
  else
  (if x5 = 4 then
  (bd1 (mK1_has trob v2 x2 v3) fun x33 => if x3 = x33 then
    (some (chn, chpu, chco, chwe))
    else
    (if x3 = 0 then
      (bd4 (mK0_offer chn chpu chco chwe 1 v2 x1 v3) fun x45 x46 x47 x48 => bd4 (mK0_offer x45 x46 x47 x48 x3 v2 x2 v3) fun x50 x51 x52 x53 => some (x50, x51, x52, x53))
      else
      (bd4 (mK0_offer chn chpu chco chwe 0 v2 x1 v3) fun x35 x36 x37 x38 => bd4 (mK0_offer x35 x36 x37 x38 x3 v2 x2 v3) fun x40 x41 x42 x43 => some (x40, x41, x42, x43))))
  else
  (if x3 = 0 then
  (some (chn, chpu, chco, chwe))
  else
  (bd1 (mK1_has trob v2 x2 v3) fun x55 => if x55 = 0 then
    (some (chn, chpu, chco, chwe))
    else
    (bd4 (mK0_offer chn chpu chco chwe 0 v2 x1 v3) fun x57 x58 x59 x60 => bd4 (mK0_offer x57 x58 x59 x60 0 v2 x2 v3) fun x62 x63 x64 x65 => some (x62, x63, x64, x65))))))))
abbrev rmK0_offerAbout : Room := { frames := 2, cells := 0, slots := 0, locals := 48 }
set_option maxHeartbeats 4000000 in
set_option maxRecDepth 100000 in
theorem kK0_offerAbout (l : Launch) (D : va_G) (cI cZ cB cC : ClassId) (sz : Nat) (oa : Nat) (tra : Nat) (tra1 : Nat) (tra2 : Nat) (tra3 : Nat) (tia : Nat) (tia1 : Nat) (tia2 : Nat) (tia3 : Nat) (rua : Nat) (rua1 : Nat) (rua2 : Nat) (rua3 : Nat) (rua4 : Nat) (cha : Nat) (cha1 : Nat) (cha2 : Nat) (cha3 : Nat) (foa : Nat) (foa1 : Nat) (foa2 : Nat) (sba : Nat) (ocs : Int32) (oal : Int32) (olt : Int32) (ols : Int32) (trso : Int32) (trob : Nat → Int32) (trme : Nat → Int32) (trwi : Nat → Int32) (tiso : Int32) (tiob : Nat → Int32) (time : Nat → Int32) (tiwi : Nat → Int32) (run : Int32) (ruki : Nat → Int32) (ruta : Nat → Int32) (rupr : Nat → Int32) (runu : Nat → Int32) (chn : Int32) (chpu : Nat → Int32) (chco : Nat → Int32) (chwe : Nat → Int32) (fon : Int32) (fose : Nat → Int32) (fosu : Nat → Int32) (v1 : Int32) (v2 : Int32) (v3 : Int32) (chn_r : Int32) (chpu_r : Nat → Int32) (chco_r : Nat → Int32) (chwe_r : Nat → Int32) (hm : mK0_offerAbout trob trme ruki rupr runu chn chpu chco chwe v1 v2 v3 = some (chn_r, chpu_r, chco_r, chwe_r)) : Met l yK0_offerAbout wsK0_offerAbout rmK0_offerAbout (va_Pc [.ref oa, .int v1, .int v2, .int v3] (Pr D (tyL cI cZ cB cC) sz (wM oa tra tra1 tra2 tra3 tia tia1 tia2 tia3 rua rua1 rua2 rua3 rua4 cha cha1 cha2 cha3 foa foa1 foa2 sba cI cZ cB cC ocs oal olt ols trso trob trme trwi tiso tiob time tiwi run ruki ruta rupr runu chn chpu chco chwe fon fose fosu))) (QV D (va_A (wM oa tra tra1 tra2 tra3 tia tia1 tia2 tia3 rua rua1 rua2 rua3 rua4 cha cha1 cha2 cha3 foa foa1 foa2 sba cI cZ cB cC ocs oal olt ols trso trob trme trwi tiso tiob time tiwi run ruki ruta rupr runu chn chpu chco chwe fon fose fosu) sz) (wM oa tra tra1 tra2 tra3 tia tia1 tia2 tia3 rua rua1 rua2 rua3 rua4 cha cha1 cha2 cha3 foa foa1 foa2 sba cI cZ cB cC ocs oal olt ols trso trob trme trwi tiso tiob time tiwi run ruki ruta rupr runu chn_r chpu_r chco_r chwe_r fon fose fosu)) 0 0 (va_A (wM oa tra tra1 tra2 tra3 tia tia1 tia2 tia3 rua rua1 rua2 rua3 rua4 cha cha1 cha2 cha3 foa foa1 foa2 sba cI cZ cB cC ocs oal olt ols trso trob trme trwi tiso tiob time tiwi run ruki ruta rupr runu chn chpu chco chwe fon fose fosu) sz) := by
  refine Met.ofW (cc := cK0_offerAbout) (maxL := 7) (ret := none) (by decide) rfl ?_
  intro p e s m args below meth c s₁ B hml hv
  obtain ⟨rfl, hsz, hP, hK, hD0, hN⟩ := hv
  have hx := B.exec
  have hb := B.bytes
  have hr := B.returns
  have hts := htsA (atoms_spec (ws := wsK0_offerAbout) B.pre)
  have hown : s.vm.findClass RK0 = some m.cls := findClass_of_methodNamed B.named
  have hlocks := B.notSynchronized
  subst hsz
  have hD := hD0.self (sz := s.heap.size)
  generalize hAe : va_A (wM oa tra tra1 tra2 tra3 tia tia1 tia2 tia3 rua rua1 rua2 rua3 rua4 cha cha1 cha2 cha3 foa foa1 foa2 sba cI cZ cB cC ocs oal olt ols trso trob trme trwi tiso tiob time tiwi run ruki ruta rupr runu chn chpu chco chwe fon fose fosu) s.heap.size = A at hD ⊢
  have hA : ∀ q : Nat, s.heap.size ≤ q → A q := fun q h => by rw [← hAe]; exact Or.inr h
  refine kstart (A := A) hP (fun H hP hS => ?_)
  have hl := lv_entry ([.ref oa, .int v1, .int v2, .int v3]) (n := 7) (Nat.le_of_ble_eq_true rfl)
  rw [lg_entry_eq]
  generalize (lg_sl ([.ref oa, .int v1, .int v2, .int v3]) ++ List.replicate (7 - (lg_sl ([.ref oa, .int v1, .int v2, .int v3])).length) Slot.unset).toArray = ls at hl ⊢
  have hl : lv_has ls 7 [(0, .ref oa), (1, .int v1), (2, .int v2), (3, .int v3)] := hl
  unfold mK0_offerAbout at hm
  refine lv_aload_n hx hb dK0_offerAbout_0 rfl (lv_at hl 0 rfl) ?_
  refine va_get (D := D) (ci := 0) (v := .ref rua) (C := RK0) (T := TK0) (N := 10) hx hb hts inK0 hown hK hP 0 rfl rfl 2 (by decide) (hts _ wdt1_145) (fun _ h9 => h9) rfl dK0_offerAbout_1 ?_
  refine va_getN (D := D) (ci := 2) (v := .ref rua3) (C := RK2) (T := TK2) (N := 5) hx hb hts inK2 hown hK hP 9 rfl rfl 2 (by decide) (nw hN 2 rfl) (fun _ h9 => h9) rfl dK0_offerAbout_4 ?_
  refine lv_iload_n hx hb dK0_offerAbout_7 rfl (lv_at hl 1 rfl) ?_
  obtain ⟨x1, ex1, hm⟩ := bd1_s hm
  obtain ⟨hix1, ex1⟩ := rd_s ex1
  refine va_iald hx hb hK hP 12 0 rfl rfl hix1 dK0_offerAbout_8 ?_
  refine topi ex1 ?_
  refine lv_istore (lv' := [(4, .int x1), (0, .ref oa), (1, .int v1), (2, .int v2), (3, .int v3)]) hx hb dK0_offerAbout_9 hl (by decide) rfl (fun ls hl => ?_)
  refine lv_aload_n hx hb dK0_offerAbout_11 rfl (lv_at hl 1 rfl) ?_
  refine va_get (D := D) (ci := 0) (v := .ref rua) (C := RK0) (T := TK0) (N := 10) hx hb hts inK0 hown hK hP 0 rfl rfl 2 (by decide) (hts _ wdt1_145) (fun _ h9 => h9) rfl dK0_offerAbout_12 ?_
  refine va_getN (D := D) (ci := 2) (v := .ref rua4) (C := RK2) (T := TK2) (N := 5) hx hb hts inK2 hown hK hP 9 rfl rfl 3 (by decide) (nw hN 3 rfl) (fun _ h9 => h9) rfl dK0_offerAbout_15 ?_
  refine lv_iload_n hx hb dK0_offerAbout_18 rfl (lv_at hl 2 rfl) ?_
  obtain ⟨x2, ex2, hm⟩ := bd1_s hm
  obtain ⟨hix2, ex2⟩ := rd_s ex2
  refine va_iald hx hb hK hP 13 0 rfl rfl hix2 dK0_offerAbout_19 ?_
  refine topi ex2 ?_
  refine lv_istore (lv' := [(5, .int x2), (4, .int x1), (0, .ref oa), (1, .int v1), (2, .int v2), (3, .int v3)]) hx hb dK0_offerAbout_20 hl (by decide) rfl (fun ls hl => ?_)
  refine lv_aload_n hx hb dK0_offerAbout_22 rfl (lv_at hl 2 rfl) ?_
  refine va_get (D := D) (ci := 0) (v := .ref tra) (C := RK0) (T := TK0) (N := 10) hx hb hts inK0 hown hK hP 0 rfl rfl 0 (by decide) (hts _ wdt1_143) (fun _ h9 => h9) rfl dK0_offerAbout_23 ?_
  refine lv_iload_n hx hb dK0_offerAbout_26 rfl (lv_at hl 4 rfl) ?_
  refine lv_iload hx hb dK0_offerAbout_27 (lv_at hl 1 rfl) ?_
  refine lv_iload_n hx hb dK0_offerAbout_29 rfl (lv_at hl 5 rfl) ?_
  obtain ⟨x3, ec4, hm⟩ := bd1_s hm
  have hPc := hP.sub (ws' := (wT tra tra1 tra2 tra3 cI cZ cB cC trso trob trme trwi)) [1, 2, 3, 4] rfl
  have hDc := hD.sub (ws' := (wT tra tra1 tra2 tra3 cI cZ cB cC trso trob trme trwi)) [1, 2, 3, 4] (by decide) rfl
  refine k_calli (wr := [(oa, .inr (0, [.ref tra, .ref tia, .ref rua, .ref cha, .ref foa, .ref sba, .int ocs, .int oal, .int olt, .int ols])), (tia, .inr (1, [.ref tia1, .ref tia2, .ref tia3, .int tiso])), (tia1, .inl (cI, 72, .inl tiob)), (tia2, .inl (cI, 12, .inl time)), (tia3, .inl (cI, 12, .inl tiwi)), (rua, .inr (2, [.ref rua1, .ref rua2, .ref rua3, .ref rua4, .int run])), (rua1, .inl (cI, 10, .inl ruki)), (rua2, .inl (cI, 10, .inl ruta)), (rua3, .inl (cI, 10, .inl rupr)), (rua4, .inl (cI, 10, .inl runu)), (cha, .inr (3, [.ref cha1, .ref cha2, .ref cha3, .int chn])), (cha1, .inl (cZ, 12, .inl chpu)), (cha2, .inl (cI, 12, .inl chco)), (cha3, .inl (cI, 12, .inl chwe)), (foa, .inr (4, [.ref foa1, .ref foa2, .int fon])), (foa1, .inl (cI, 30, .inl fose)), (foa2, .inl (cI, 30, .inl fosu))]) (w1 := (wT tra tra1 tra2 tra3 cI cZ cB cC trso trob trme trwi)) (ws' := (wM oa tra tra1 tra2 tra3 tia tia1 tia2 tia3 rua rua1 rua2 rua3 rua4 cha cha1 cha2 cha3 foa foa1 foa2 sba cI cZ cB cC ocs oal olt ols trso trob trme trwi tiso tiob time tiwi run ruki ruta rupr runu chn chpu chco chwe fon fose fosu)) (va_runV (As := [.int v2, .int x1, .int v3]) (rest := []) ⟨hx, hb, hml, hown, hts⟩ (kK1_has l D cI cZ cB cC H.size tra tra1 tra2 tra3 trso trob trme trwi v2 x1 v3 x3 ec4) (cwV 3 hts (gdV wdt1_191 wdt1_192 wdt1_193 wdt1_2 gkK1_has) rfl rfl rfl (by decide +kernel) ⟨Nat.le_of_ble_eq_true rfl, Nat.le_of_ble_eq_true rfl⟩) ⟨Pr_blind, va_recv hK hPc (ci := 1) (q0 := 0) rfl rfl, fun U hU hW => ⟨rfl, Pr_at hK hN hPc hDc hU hW⟩⟩ rfl rfl hl.1 rfl (lv_room (Nat.le_of_ble_eq_true rfl)) dK0_offerAbout_30 ⟨Nat.le_of_ble_eq_true rfl, Nat.le_of_ble_eq_true rfl⟩) hP hD hS hA [1, 2, 3, 4] [0, 5, 6, 7, 8, 9, 10, 11, 12, 13, 14, 15, 16, 17, 18, 19, 20] [0, 17, 18, 19, 20, 1, 2, 3, 4, 5, 6, 7, 8, 9, 10, 11, 12, 13, 14, 15, 16] rfl rfl (by decide) (by decide) (by decide) rfl (fun H locs hP hD hS => ?_)
  refine lv_istore (lv' := [(6, .int x3), (5, .int x2), (4, .int x1), (0, .ref oa), (1, .int v1), (2, .int v2), (3, .int v3)]) hx hb dK0_offerAbout_33 hl (by decide) rfl (fun ls hl => ?_)
  refine lv_aload_n hx hb dK0_offerAbout_35 rfl (lv_at hl 3 rfl) ?_
  refine va_get (D := D) (ci := 0) (v := .ref rua) (C := RK0) (T := TK0) (N := 10) hx hb hts inK0 hown hK hP 0 rfl rfl 2 (by decide) (hts _ wdt1_145) (fun _ h9 => h9) rfl dK0_offerAbout_36 ?_
  refine va_getN (D := D) (ci := 2) (v := .ref rua1) (C := RK2) (T := TK2) (N := 5) hx hb hts inK2 hown hK hP 9 rfl rfl 0 (by decide) (nw hN 0 rfl) (fun _ h9 => h9) rfl dK0_offerAbout_39 ?_
  refine lv_iload_n hx hb dK0_offerAbout_42 rfl (lv_at hl 4 rfl) ?_
  obtain ⟨x5, ex5, hm⟩ := bd1_s hm
  obtain ⟨hix5, ex5⟩ := rd_s ex5
  refine va_iald hx hb hK hP 10 0 rfl rfl hix5 dK0_offerAbout_43 ?_
  refine topi ex5 ?_
  by_cases hc44_0 : x5 = 0
  · replace hm := ift hm hc44_0
    refine topi hc44_0 ?_
    refine lv_tableIn (tgt := 80) hx hb dK0_offerAbout_44 (by decide) (by decide) rfl (by decide) ?_
    refine lv_iload hx hb dK0_offerAbout_80 (lv_at hl 0 rfl) ?_
    refine lv_if_ne (tgt := 260) hx hb dK0_offerAbout_82 (by decide) (fun hc => ?_) (fun hc => ?_)
    · replace hm := iff_ hm hc
      replace hm := Option.some.inj hm
      simp only [Prod.mk.injEq] at hm
      obtain ⟨rfl, rfl, rfl, rfl⟩ := hm
      exact k_retv hx hb hr hlocks hP hD hS dK0_offerAbout_260
    · replace hm := ift hm hc
      refine lv_aload_n hx hb dK0_offerAbout_85 rfl (lv_at hl 3 rfl) ?_
      refine lv_iconst (v := 1) hx hb dK0_offerAbout_86 (by decide) ?_
      refine lv_iload_n hx hb dK0_offerAbout_87 rfl (lv_at hl 5 rfl) ?_
      refine lv_iload hx hb dK0_offerAbout_88 (lv_at hl 2 rfl) ?_
      refine lv_iload_n hx hb dK0_offerAbout_90 rfl (lv_at hl 6 rfl) ?_
      obtain ⟨x6, x7, x8, x9, ec10, hm⟩ := bd4_s hm
      have hPc := hP.sub (ws' := (wM oa tra tra1 tra2 tra3 tia tia1 tia2 tia3 rua rua1 rua2 rua3 rua4 cha cha1 cha2 cha3 foa foa1 foa2 sba cI cZ cB cC ocs oal olt ols trso trob trme trwi tiso tiob time tiwi run ruki ruta rupr runu chn chpu chco chwe fon fose fosu)) [0, 1, 2, 3, 4, 5, 6, 7, 8, 9, 10, 11, 12, 13, 14, 15, 16, 17, 18, 19, 20] rfl
      have hDc := hD.sub (ws' := (wM oa tra tra1 tra2 tra3 tia tia1 tia2 tia3 rua rua1 rua2 rua3 rua4 cha cha1 cha2 cha3 foa foa1 foa2 sba cI cZ cB cC ocs oal olt ols trso trob trme trwi tiso tiob time tiwi run ruki ruta rupr runu chn chpu chco chwe fon fose fosu)) [0, 1, 2, 3, 4, 5, 6, 7, 8, 9, 10, 11, 12, 13, 14, 15, 16, 17, 18, 19, 20] (by decide) rfl
      refine k_callv (wr := []) (w1 := (wM oa tra tra1 tra2 tra3 tia tia1 tia2 tia3 rua rua1 rua2 rua3 rua4 cha cha1 cha2 cha3 foa foa1 foa2 sba cI cZ cB cC ocs oal olt ols trso trob trme trwi tiso tiob time tiwi run ruki ruta rupr runu x6 x7 x8 x9 fon fose fosu)) (ws' := (wM oa tra tra1 tra2 tra3 tia tia1 tia2 tia3 rua rua1 rua2 rua3 rua4 cha cha1 cha2 cha3 foa foa1 foa2 sba cI cZ cB cC ocs oal olt ols trso trob trme trwi tiso tiob time tiwi run ruki ruta rupr runu x6 x7 x8 x9 fon fose fosu)) (va_runV (As := [.int 1, .int v2, .int x1, .int v3]) (rest := []) ⟨hx, hb, hml, hown, hts⟩ (kK0_offer l D cI cZ cB cC H.size oa tra tra1 tra2 tra3 tia tia1 tia2 tia3 rua rua1 rua2 rua3 rua4 cha cha1 cha2 cha3 foa foa1 foa2 sba ocs oal olt ols trso trob trme trwi tiso tiob time tiwi run ruki ruta rupr runu chn chpu chco chwe fon fose fosu 1 v2 x1 v3 x6 x7 x8 x9 ec10) (cwV 4 hts (gdV wdt2_88 wdt2_90 wds1_6 wdt1_1 gkK0_offer) rfl rfl rfl (by decide +kernel) ⟨Nat.le_of_ble_eq_true rfl, Nat.le_of_ble_eq_true rfl⟩) ⟨Pr_blind, va_recv hK hPc (ci := 0) (q0 := 0) rfl rfl, fun U hU hW => ⟨rfl, Pr_at hK hN hPc hDc hU hW⟩⟩ rfl rfl hl.1 rfl (lv_room (Nat.le_of_ble_eq_true rfl)) dK0_offerAbout_91 ⟨Nat.le_of_ble_eq_true rfl, Nat.le_of_ble_eq_true rfl⟩) hP hD hS hA [0, 1, 2, 3, 4, 5, 6, 7, 8, 9, 10, 11, 12, 13, 14, 15, 16, 17, 18, 19, 20] [] [0, 1, 2, 3, 4, 5, 6, 7, 8, 9, 10, 11, 12, 13, 14, 15, 16, 17, 18, 19, 20] rfl rfl (by decide) (by decide) (by decide) rfl (fun H locs hP hD hS => ?_)
      refine lv_goto (tgt := 260) hx hb dK0_offerAbout_94 (by decide) ?_
      replace hm := Option.some.inj hm
      simp only [Prod.mk.injEq] at hm
      obtain ⟨rfl, rfl, rfl, rfl⟩ := hm
      exact k_retv hx hb hr hlocks hP hD hS dK0_offerAbout_260
  · replace hm := iff_ hm hc44_0
    by_cases hc44_1 : x5 = 1
    · replace hm := ift hm hc44_1
      refine topi hc44_1 ?_
      refine lv_tableIn (tgt := 97) hx hb dK0_offerAbout_44 (by decide) (by decide) rfl (by decide) ?_
      refine lv_iload hx hb dK0_offerAbout_97 (lv_at hl 0 rfl) ?_
      refine lv_if_eq (tgt := 260) hx hb dK0_offerAbout_99 (by decide) (fun hc => ?_) (fun hc => ?_)
      · replace hm := ift hm hc
        replace hm := Option.some.inj hm
        simp only [Prod.mk.injEq] at hm
        obtain ⟨rfl, rfl, rfl, rfl⟩ := hm
        exact k_retv hx hb hr hlocks hP hD hS dK0_offerAbout_260
      · replace hm := iff_ hm hc
        refine lv_aload_n hx hb dK0_offerAbout_102 rfl (lv_at hl 3 rfl) ?_
        refine lv_iconst (v := 0) hx hb dK0_offerAbout_103 (by decide) ?_
        refine lv_iload_n hx hb dK0_offerAbout_104 rfl (lv_at hl 5 rfl) ?_
        refine lv_iload hx hb dK0_offerAbout_105 (lv_at hl 2 rfl) ?_
        refine lv_iload_n hx hb dK0_offerAbout_107 rfl (lv_at hl 6 rfl) ?_
        obtain ⟨x11, x12, x13, x14, ec15, hm⟩ := bd4_s hm
        have hPc := hP.sub (ws' := (wM oa tra tra1 tra2 tra3 tia tia1 tia2 tia3 rua rua1 rua2 rua3 rua4 cha cha1 cha2 cha3 foa foa1 foa2 sba cI cZ cB cC ocs oal olt ols trso trob trme trwi tiso tiob time tiwi run ruki ruta rupr runu chn chpu chco chwe fon fose fosu)) [0, 1, 2, 3, 4, 5, 6, 7, 8, 9, 10, 11, 12, 13, 14, 15, 16, 17, 18, 19, 20] rfl
        have hDc := hD.sub (ws' := (wM oa tra tra1 tra2 tra3 tia tia1 tia2 tia3 rua rua1 rua2 rua3 rua4 cha cha1 cha2 cha3 foa foa1 foa2 sba cI cZ cB cC ocs oal olt ols trso trob trme trwi tiso tiob time tiwi run ruki ruta rupr runu chn chpu chco chwe fon fose fosu)) [0, 1, 2, 3, 4, 5, 6, 7, 8, 9, 10, 11, 12, 13, 14, 15, 16, 17, 18, 19, 20] (by decide) rfl
        refine k_callv (wr := []) (w1 := (wM oa tra tra1 tra2 tra3 tia tia1 tia2 tia3 rua rua1 rua2 rua3 rua4 cha cha1 cha2 cha3 foa foa1 foa2 sba cI cZ cB cC ocs oal olt ols trso trob trme trwi tiso tiob time tiwi run ruki ruta rupr runu x11 x12 x13 x14 fon fose fosu)) (ws' := (wM oa tra tra1 tra2 tra3 tia tia1 tia2 tia3 rua rua1 rua2 rua3 rua4 cha cha1 cha2 cha3 foa foa1 foa2 sba cI cZ cB cC ocs oal olt ols trso trob trme trwi tiso tiob time tiwi run ruki ruta rupr runu x11 x12 x13 x14 fon fose fosu)) (va_runV (As := [.int 0, .int v2, .int x1, .int v3]) (rest := []) ⟨hx, hb, hml, hown, hts⟩ (kK0_offer l D cI cZ cB cC H.size oa tra tra1 tra2 tra3 tia tia1 tia2 tia3 rua rua1 rua2 rua3 rua4 cha cha1 cha2 cha3 foa foa1 foa2 sba ocs oal olt ols trso trob trme trwi tiso tiob time tiwi run ruki ruta rupr runu chn chpu chco chwe fon fose fosu 0 v2 x1 v3 x11 x12 x13 x14 ec15) (cwV 4 hts (gdV wdt2_88 wdt2_90 wds1_6 wdt1_1 gkK0_offer) rfl rfl rfl (by decide +kernel) ⟨Nat.le_of_ble_eq_true rfl, Nat.le_of_ble_eq_true rfl⟩) ⟨Pr_blind, va_recv hK hPc (ci := 0) (q0 := 0) rfl rfl, fun U hU hW => ⟨rfl, Pr_at hK hN hPc hDc hU hW⟩⟩ rfl rfl hl.1 rfl (lv_room (Nat.le_of_ble_eq_true rfl)) dK0_offerAbout_108 ⟨Nat.le_of_ble_eq_true rfl, Nat.le_of_ble_eq_true rfl⟩) hP hD hS hA [0, 1, 2, 3, 4, 5, 6, 7, 8, 9, 10, 11, 12, 13, 14, 15, 16, 17, 18, 19, 20] [] [0, 1, 2, 3, 4, 5, 6, 7, 8, 9, 10, 11, 12, 13, 14, 15, 16, 17, 18, 19, 20] rfl rfl (by decide) (by decide) (by decide) rfl (fun H locs hP hD hS => ?_)
        refine lv_goto (tgt := 260) hx hb dK0_offerAbout_111 (by decide) ?_
        replace hm := Option.some.inj hm
        simp only [Prod.mk.injEq] at hm
        obtain ⟨rfl, rfl, rfl, rfl⟩ := hm
        exact k_retv hx hb hr hlocks hP hD hS dK0_offerAbout_260
    · replace hm := iff_ hm hc44_1
      by_cases hc44_2 : x5 = 2
      · replace hm := ift hm hc44_2
        refine topi hc44_2 ?_
        refine lv_tableIn (tgt := 114) hx hb dK0_offerAbout_44 (by decide) (by decide) rfl (by decide) ?_
        refine lv_iload hx hb dK0_offerAbout_114 (lv_at hl 0 rfl) ?_
        refine lv_if_eq (tgt := 260) hx hb dK0_offerAbout_116 (by decide) (fun hc => ?_) (fun hc => ?_)
        · replace hm := ift hm hc
          replace hm := Option.some.inj hm
          simp only [Prod.mk.injEq] at hm
          obtain ⟨rfl, rfl, rfl, rfl⟩ := hm
          exact k_retv hx hb hr hlocks hP hD hS dK0_offerAbout_260
        · replace hm := iff_ hm hc
          refine lv_aload_n hx hb dK0_offerAbout_119 rfl (lv_at hl 3 rfl) ?_
          refine va_get (D := D) (ci := 0) (v := .ref tra) (C := RK0) (T := TK0) (N := 10) hx hb hts inK0 hown hK hP 0 rfl rfl 0 (by decide) (hts _ wdt1_143) (fun _ h9 => h9) rfl dK0_offerAbout_120 ?_
          refine lv_iload_n hx hb dK0_offerAbout_123 rfl (lv_at hl 6 rfl) ?_
          refine lv_iload hx hb dK0_offerAbout_124 (lv_at hl 1 rfl) ?_
          obtain ⟨x16, ec17, hm⟩ := bd1_s hm
          have hPc := hP.sub (ws' := (wT tra tra1 tra2 tra3 cI cZ cB cC trso trob trme trwi)) [1, 2, 3, 4] rfl
          have hDc := hD.sub (ws' := (wT tra tra1 tra2 tra3 cI cZ cB cC trso trob trme trwi)) [1, 2, 3, 4] (by decide) rfl
          refine k_calli (wr := [(oa, .inr (0, [.ref tra, .ref tia, .ref rua, .ref cha, .ref foa, .ref sba, .int ocs, .int oal, .int olt, .int ols])), (tia, .inr (1, [.ref tia1, .ref tia2, .ref tia3, .int tiso])), (tia1, .inl (cI, 72, .inl tiob)), (tia2, .inl (cI, 12, .inl time)), (tia3, .inl (cI, 12, .inl tiwi)), (rua, .inr (2, [.ref rua1, .ref rua2, .ref rua3, .ref rua4, .int run])), (rua1, .inl (cI, 10, .inl ruki)), (rua2, .inl (cI, 10, .inl ruta)), (rua3, .inl (cI, 10, .inl rupr)), (rua4, .inl (cI, 10, .inl runu)), (cha, .inr (3, [.ref cha1, .ref cha2, .ref cha3, .int chn])), (cha1, .inl (cZ, 12, .inl chpu)), (cha2, .inl (cI, 12, .inl chco)), (cha3, .inl (cI, 12, .inl chwe)), (foa, .inr (4, [.ref foa1, .ref foa2, .int fon])), (foa1, .inl (cI, 30, .inl fose)), (foa2, .inl (cI, 30, .inl fosu))]) (w1 := (wT tra tra1 tra2 tra3 cI cZ cB cC trso trob trme trwi)) (ws' := (wM oa tra tra1 tra2 tra3 tia tia1 tia2 tia3 rua rua1 rua2 rua3 rua4 cha cha1 cha2 cha3 foa foa1 foa2 sba cI cZ cB cC ocs oal olt ols trso trob trme trwi tiso tiob time tiwi run ruki ruta rupr runu chn chpu chco chwe fon fose fosu)) (va_runV (As := [.int v3, .int x2]) (rest := []) ⟨hx, hb, hml, hown, hts⟩ (kK1_isMember l D cI cZ cB cC H.size tra tra1 tra2 tra3 trso trob trme trwi v3 x2 x16 ec17) (cwV 2 hts (gdV wdt2_46 wdt2_47 wdt2_48 wdt1_2 gkK1_isMember) rfl rfl rfl (by decide +kernel) ⟨Nat.le_of_ble_eq_true rfl, Nat.le_of_ble_eq_true rfl⟩) ⟨Pr_blind, va_recv hK hPc (ci := 1) (q0 := 0) rfl rfl, fun U hU hW => ⟨rfl, Pr_at hK hN hPc hDc hU hW⟩⟩ rfl rfl hl.1 rfl (lv_room (Nat.le_of_ble_eq_true rfl)) dK0_offerAbout_126 ⟨Nat.le_of_ble_eq_true rfl, Nat.le_of_ble_eq_true rfl⟩) hP hD hS hA [1, 2, 3, 4] [0, 5, 6, 7, 8, 9, 10, 11, 12, 13, 14, 15, 16, 17, 18, 19, 20] [0, 17, 18, 19, 20, 1, 2, 3, 4, 5, 6, 7, 8, 9, 10, 11, 12, 13, 14, 15, 16] rfl rfl (by decide) (by decide) (by decide) rfl (fun H locs hP hD hS => ?_)
          refine lv_if_ne (tgt := 260) hx hb dK0_offerAbout_129 (by decide) (fun hc => ?_) (fun hc => ?_)
          · replace hm := iff_ hm hc
            replace hm := Option.some.inj hm
            simp only [Prod.mk.injEq] at hm
            obtain ⟨rfl, rfl, rfl, rfl⟩ := hm
            exact k_retv hx hb hr hlocks hP hD hS dK0_offerAbout_260
          · replace hm := ift hm hc
            refine lv_aload_n hx hb dK0_offerAbout_132 rfl (lv_at hl 3 rfl) ?_
            refine lv_iconst (v := 0) hx hb dK0_offerAbout_133 (by decide) ?_
            refine lv_iload_n hx hb dK0_offerAbout_134 rfl (lv_at hl 5 rfl) ?_
            refine lv_iload hx hb dK0_offerAbout_135 (lv_at hl 2 rfl) ?_
            refine lv_iload_n hx hb dK0_offerAbout_137 rfl (lv_at hl 6 rfl) ?_
            obtain ⟨x18, x19, x20, x21, ec22, hm⟩ := bd4_s hm
            have hPc := hP.sub (ws' := (wM oa tra tra1 tra2 tra3 tia tia1 tia2 tia3 rua rua1 rua2 rua3 rua4 cha cha1 cha2 cha3 foa foa1 foa2 sba cI cZ cB cC ocs oal olt ols trso trob trme trwi tiso tiob time tiwi run ruki ruta rupr runu chn chpu chco chwe fon fose fosu)) [0, 1, 2, 3, 4, 5, 6, 7, 8, 9, 10, 11, 12, 13, 14, 15, 16, 17, 18, 19, 20] rfl
            have hDc := hD.sub (ws' := (wM oa tra tra1 tra2 tra3 tia tia1 tia2 tia3 rua rua1 rua2 rua3 rua4 cha cha1 cha2 cha3 foa foa1 foa2 sba cI cZ cB cC ocs oal olt ols trso trob trme trwi tiso tiob time tiwi run ruki ruta rupr runu chn chpu chco chwe fon fose fosu)) [0, 1, 2, 3, 4, 5, 6, 7, 8, 9, 10, 11, 12, 13, 14, 15, 16, 17, 18, 19, 20] (by decide) rfl
            refine k_callv (wr := []) (w1 := (wM oa tra tra1 tra2 tra3 tia tia1 tia2 tia3 rua rua1 rua2 rua3 rua4 cha cha1 cha2 cha3 foa foa1 foa2 sba cI cZ cB cC ocs oal olt ols trso trob trme trwi tiso tiob time tiwi run ruki ruta rupr runu x18 x19 x20 x21 fon fose fosu)) (ws' := (wM oa tra tra1 tra2 tra3 tia tia1 tia2 tia3 rua rua1 rua2 rua3 rua4 cha cha1 cha2 cha3 foa foa1 foa2 sba cI cZ cB cC ocs oal olt ols trso trob trme trwi tiso tiob time tiwi run ruki ruta rupr runu x18 x19 x20 x21 fon fose fosu)) (va_runV (As := [.int 0, .int v2, .int x1, .int v3]) (rest := []) ⟨hx, hb, hml, hown, hts⟩ (kK0_offer l D cI cZ cB cC H.size oa tra tra1 tra2 tra3 tia tia1 tia2 tia3 rua rua1 rua2 rua3 rua4 cha cha1 cha2 cha3 foa foa1 foa2 sba ocs oal olt ols trso trob trme trwi tiso tiob time tiwi run ruki ruta rupr runu chn chpu chco chwe fon fose fosu 0 v2 x1 v3 x18 x19 x20 x21 ec22) (cwV 4 hts (gdV wdt2_88 wdt2_90 wds1_6 wdt1_1 gkK0_offer) rfl rfl rfl (by decide +kernel) ⟨Nat.le_of_ble_eq_true rfl, Nat.le_of_ble_eq_true rfl⟩) ⟨Pr_blind, va_recv hK hPc (ci := 0) (q0 := 0) rfl rfl, fun U hU hW => ⟨rfl, Pr_at hK hN hPc hDc hU hW⟩⟩ rfl rfl hl.1 rfl (lv_room (Nat.le_of_ble_eq_true rfl)) dK0_offerAbout_138 ⟨Nat.le_of_ble_eq_true rfl, Nat.le_of_ble_eq_true rfl⟩) hP hD hS hA [0, 1, 2, 3, 4, 5, 6, 7, 8, 9, 10, 11, 12, 13, 14, 15, 16, 17, 18, 19, 20] [] [0, 1, 2, 3, 4, 5, 6, 7, 8, 9, 10, 11, 12, 13, 14, 15, 16, 17, 18, 19, 20] rfl rfl (by decide) (by decide) (by decide) rfl (fun H locs hP hD hS => ?_)
            refine lv_aload_n hx hb dK0_offerAbout_141 rfl (lv_at hl 3 rfl) ?_
            refine lv_iconst (v := 1) hx hb dK0_offerAbout_142 (by decide) ?_
            refine lv_iload_n hx hb dK0_offerAbout_143 rfl (lv_at hl 6 rfl) ?_
            refine lv_iconst (v := 0) hx hb dK0_offerAbout_144 (by decide) ?_
            refine lv_iload hx hb dK0_offerAbout_145 (lv_at hl 1 rfl) ?_
            obtain ⟨x23, x24, x25, x26, ec27, hm⟩ := bd4_s hm
            have hPc := hP.sub (ws' := (wM oa tra tra1 tra2 tra3 tia tia1 tia2 tia3 rua rua1 rua2 rua3 rua4 cha cha1 cha2 cha3 foa foa1 foa2 sba cI cZ cB cC ocs oal olt ols trso trob trme trwi tiso tiob time tiwi run ruki ruta rupr runu x18 x19 x20 x21 fon fose fosu)) [0, 1, 2, 3, 4, 5, 6, 7, 8, 9, 10, 11, 12, 13, 14, 15, 16, 17, 18, 19, 20] rfl
            have hDc := hD.sub (ws' := (wM oa tra tra1 tra2 tra3 tia tia1 tia2 tia3 rua rua1 rua2 rua3 rua4 cha cha1 cha2 cha3 foa foa1 foa2 sba cI cZ cB cC ocs oal olt ols trso trob trme trwi tiso tiob time tiwi run ruki ruta rupr runu x18 x19 x20 x21 fon fose fosu)) [0, 1, 2, 3, 4, 5, 6, 7, 8, 9, 10, 11, 12, 13, 14, 15, 16, 17, 18, 19, 20] (by decide) rfl
            refine k_callv (wr := []) (w1 := (wM oa tra tra1 tra2 tra3 tia tia1 tia2 tia3 rua rua1 rua2 rua3 rua4 cha cha1 cha2 cha3 foa foa1 foa2 sba cI cZ cB cC ocs oal olt ols trso trob trme trwi tiso tiob time tiwi run ruki ruta rupr runu x23 x24 x25 x26 fon fose fosu)) (ws' := (wM oa tra tra1 tra2 tra3 tia tia1 tia2 tia3 rua rua1 rua2 rua3 rua4 cha cha1 cha2 cha3 foa foa1 foa2 sba cI cZ cB cC ocs oal olt ols trso trob trme trwi tiso tiob time tiwi run ruki ruta rupr runu x23 x24 x25 x26 fon fose fosu)) (va_runV (As := [.int 1, .int v3, .int 0, .int x2]) (rest := []) ⟨hx, hb, hml, hown, hts⟩ (kK0_offer l D cI cZ cB cC H.size oa tra tra1 tra2 tra3 tia tia1 tia2 tia3 rua rua1 rua2 rua3 rua4 cha cha1 cha2 cha3 foa foa1 foa2 sba ocs oal olt ols trso trob trme trwi tiso tiob time tiwi run ruki ruta rupr runu x18 x19 x20 x21 fon fose fosu 1 v3 0 x2 x23 x24 x25 x26 ec27) (cwV 4 hts (gdV wdt2_88 wdt2_90 wds1_6 wdt1_1 gkK0_offer) rfl rfl rfl (by decide +kernel) ⟨Nat.le_of_ble_eq_true rfl, Nat.le_of_ble_eq_true rfl⟩) ⟨Pr_blind, va_recv hK hPc (ci := 0) (q0 := 0) rfl rfl, fun U hU hW => ⟨rfl, Pr_at hK hN hPc hDc hU hW⟩⟩ rfl rfl hl.1 rfl (lv_room (Nat.le_of_ble_eq_true rfl)) dK0_offerAbout_147 ⟨Nat.le_of_ble_eq_true rfl, Nat.le_of_ble_eq_true rfl⟩) hP hD hS hA [0, 1, 2, 3, 4, 5, 6, 7, 8, 9, 10, 11, 12, 13, 14, 15, 16, 17, 18, 19, 20] [] [0, 1, 2, 3, 4, 5, 6, 7, 8, 9, 10, 11, 12, 13, 14, 15, 16, 17, 18, 19, 20] rfl rfl (by decide) (by decide) (by decide) rfl (fun H locs hP hD hS => ?_)
            refine lv_goto (tgt := 260) hx hb dK0_offerAbout_150 (by decide) ?_
            replace hm := Option.some.inj hm
            simp only [Prod.mk.injEq] at hm
            obtain ⟨rfl, rfl, rfl, rfl⟩ := hm
            exact k_retv hx hb hr hlocks hP hD hS dK0_offerAbout_260
      · replace hm := iff_ hm hc44_2
        by_cases hc44_3 : x5 = 3
        · replace hm := ift hm hc44_3
          refine topi hc44_3 ?_
          refine lv_tableIn (tgt := 153) hx hb dK0_offerAbout_44 (by decide) (by decide) rfl (by decide) ?_
          refine lv_iload hx hb dK0_offerAbout_153 (lv_at hl 0 rfl) ?_
          refine lv_if_eq (tgt := 260) hx hb dK0_offerAbout_155 (by decide) (fun hc => ?_) (fun hc => ?_)
          · replace hm := ift hm hc
            replace hm := Option.some.inj hm
            simp only [Prod.mk.injEq] at hm
            obtain ⟨rfl, rfl, rfl, rfl⟩ := hm
            exact k_retv hx hb hr hlocks hP hD hS dK0_offerAbout_260
          · replace hm := iff_ hm hc
            refine lv_iload_n hx hb dK0_offerAbout_158 rfl (lv_at hl 6 rfl) ?_
            refine lv_iload hx hb dK0_offerAbout_159 (lv_at hl 1 rfl) ?_
            refine lv_icmp_ne (tgt := 260) hx hb dK0_offerAbout_161 (by decide) (fun hc => ?_) (fun hc => ?_)
            · replace hm := iff_ hm hc
              replace hm := Option.some.inj hm
              simp only [Prod.mk.injEq] at hm
              obtain ⟨rfl, rfl, rfl, rfl⟩ := hm
              exact k_retv hx hb hr hlocks hP hD hS dK0_offerAbout_260
            · replace hm := ift hm hc
              refine lv_aload_n hx hb dK0_offerAbout_164 rfl (lv_at hl 3 rfl) ?_
              refine lv_iconst (v := 0) hx hb dK0_offerAbout_165 (by decide) ?_
              refine lv_iload_n hx hb dK0_offerAbout_166 rfl (lv_at hl 5 rfl) ?_
              refine lv_iload hx hb dK0_offerAbout_167 (lv_at hl 2 rfl) ?_
              refine lv_iload_n hx hb dK0_offerAbout_169 rfl (lv_at hl 6 rfl) ?_
              obtain ⟨x28, x29, x30, x31, ec32, hm⟩ := bd4_s hm
              have hPc := hP.sub (ws' := (wM oa tra tra1 tra2 tra3 tia tia1 tia2 tia3 rua rua1 rua2 rua3 rua4 cha cha1 cha2 cha3 foa foa1 foa2 sba cI cZ cB cC ocs oal olt ols trso trob trme trwi tiso tiob time tiwi run ruki ruta rupr runu chn chpu chco chwe fon fose fosu)) [0, 1, 2, 3, 4, 5, 6, 7, 8, 9, 10, 11, 12, 13, 14, 15, 16, 17, 18, 19, 20] rfl
              have hDc := hD.sub (ws' := (wM oa tra tra1 tra2 tra3 tia tia1 tia2 tia3 rua rua1 rua2 rua3 rua4 cha cha1 cha2 cha3 foa foa1 foa2 sba cI cZ cB cC ocs oal olt ols trso trob trme trwi tiso tiob time tiwi run ruki ruta rupr runu chn chpu chco chwe fon fose fosu)) [0, 1, 2, 3, 4, 5, 6, 7, 8, 9, 10, 11, 12, 13, 14, 15, 16, 17, 18, 19, 20] (by decide) rfl
              refine k_callv (wr := []) (w1 := (wM oa tra tra1 tra2 tra3 tia tia1 tia2 tia3 rua rua1 rua2 rua3 rua4 cha cha1 cha2 cha3 foa foa1 foa2 sba cI cZ cB cC ocs oal olt ols trso trob trme trwi tiso tiob time tiwi run ruki ruta rupr runu x28 x29 x30 x31 fon fose fosu)) (ws' := (wM oa tra tra1 tra2 tra3 tia tia1 tia2 tia3 rua rua1 rua2 rua3 rua4 cha cha1 cha2 cha3 foa foa1 foa2 sba cI cZ cB cC ocs oal olt ols trso trob trme trwi tiso tiob time tiwi run ruki ruta rupr runu x28 x29 x30 x31 fon fose fosu)) (va_runV (As := [.int 0, .int v2, .int x1, .int v3]) (rest := []) ⟨hx, hb, hml, hown, hts⟩ (kK0_offer l D cI cZ cB cC H.size oa tra tra1 tra2 tra3 tia tia1 tia2 tia3 rua rua1 rua2 rua3 rua4 cha cha1 cha2 cha3 foa foa1 foa2 sba ocs oal olt ols trso trob trme trwi tiso tiob time tiwi run ruki ruta rupr runu chn chpu chco chwe fon fose fosu 0 v2 x1 v3 x28 x29 x30 x31 ec32) (cwV 4 hts (gdV wdt2_88 wdt2_90 wds1_6 wdt1_1 gkK0_offer) rfl rfl rfl (by decide +kernel) ⟨Nat.le_of_ble_eq_true rfl, Nat.le_of_ble_eq_true rfl⟩) ⟨Pr_blind, va_recv hK hPc (ci := 0) (q0 := 0) rfl rfl, fun U hU hW => ⟨rfl, Pr_at hK hN hPc hDc hU hW⟩⟩ rfl rfl hl.1 rfl (lv_room (Nat.le_of_ble_eq_true rfl)) dK0_offerAbout_170 ⟨Nat.le_of_ble_eq_true rfl, Nat.le_of_ble_eq_true rfl⟩) hP hD hS hA [0, 1, 2, 3, 4, 5, 6, 7, 8, 9, 10, 11, 12, 13, 14, 15, 16, 17, 18, 19, 20] [] [0, 1, 2, 3, 4, 5, 6, 7, 8, 9, 10, 11, 12, 13, 14, 15, 16, 17, 18, 19, 20] rfl rfl (by decide) (by decide) (by decide) rfl (fun H locs hP hD hS => ?_)
              refine lv_goto (tgt := 260) hx hb dK0_offerAbout_173 (by decide) ?_
              replace hm := Option.some.inj hm
              simp only [Prod.mk.injEq] at hm
              obtain ⟨rfl, rfl, rfl, rfl⟩ := hm
              exact k_retv hx hb hr hlocks hP hD hS dK0_offerAbout_260
        · replace hm := iff_ hm hc44_3
          by_cases hc44_4 : x5 = 4
          · replace hm := ift hm hc44_4
            refine topi hc44_4 ?_
            refine lv_tableIn (tgt := 176) hx hb dK0_offerAbout_44 (by decide) (by decide) rfl (by decide) ?_
            refine lv_iload hx hb dK0_offerAbout_176 (lv_at hl 0 rfl) ?_
            refine lv_aload_n hx hb dK0_offerAbout_178 rfl (lv_at hl 3 rfl) ?_
            refine va_get (D := D) (ci := 0) (v := .ref tra) (C := RK0) (T := TK0) (N := 10) hx hb hts inK0 hown hK hP 0 rfl rfl 0 (by decide) (hts _ wdt1_143) (fun _ h9 => h9) rfl dK0_offerAbout_179 ?_
            refine lv_iload_n hx hb dK0_offerAbout_182 rfl (lv_at hl 5 rfl) ?_
            refine lv_iload hx hb dK0_offerAbout_183 (lv_at hl 1 rfl) ?_
            refine lv_iload_n hx hb dK0_offerAbout_185 rfl (lv_at hl 6 rfl) ?_
            obtain ⟨x33, ec34, hm⟩ := bd1_s hm
            have hPc := hP.sub (ws' := (wT tra tra1 tra2 tra3 cI cZ cB cC trso trob trme trwi)) [1, 2, 3, 4] rfl
            have hDc := hD.sub (ws' := (wT tra tra1 tra2 tra3 cI cZ cB cC trso trob trme trwi)) [1, 2, 3, 4] (by decide) rfl
            refine k_calli (wr := [(oa, .inr (0, [.ref tra, .ref tia, .ref rua, .ref cha, .ref foa, .ref sba, .int ocs, .int oal, .int olt, .int ols])), (tia, .inr (1, [.ref tia1, .ref tia2, .ref tia3, .int tiso])), (tia1, .inl (cI, 72, .inl tiob)), (tia2, .inl (cI, 12, .inl time)), (tia3, .inl (cI, 12, .inl tiwi)), (rua, .inr (2, [.ref rua1, .ref rua2, .ref rua3, .ref rua4, .int run])), (rua1, .inl (cI, 10, .inl ruki)), (rua2, .inl (cI, 10, .inl ruta)), (rua3, .inl (cI, 10, .inl rupr)), (rua4, .inl (cI, 10, .inl runu)), (cha, .inr (3, [.ref cha1, .ref cha2, .ref cha3, .int chn])), (cha1, .inl (cZ, 12, .inl chpu)), (cha2, .inl (cI, 12, .inl chco)), (cha3, .inl (cI, 12, .inl chwe)), (foa, .inr (4, [.ref foa1, .ref foa2, .int fon])), (foa1, .inl (cI, 30, .inl fose)), (foa2, .inl (cI, 30, .inl fosu))]) (w1 := (wT tra tra1 tra2 tra3 cI cZ cB cC trso trob trme trwi)) (ws' := (wM oa tra tra1 tra2 tra3 tia tia1 tia2 tia3 rua rua1 rua2 rua3 rua4 cha cha1 cha2 cha3 foa foa1 foa2 sba cI cZ cB cC ocs oal olt ols trso trob trme trwi tiso tiob time tiwi run ruki ruta rupr runu chn chpu chco chwe fon fose fosu)) (va_runV (As := [.int v2, .int x2, .int v3]) (rest := [.int x3]) ⟨hx, hb, hml, hown, hts⟩ (kK1_has l D cI cZ cB cC H.size tra tra1 tra2 tra3 trso trob trme trwi v2 x2 v3 x33 ec34) (cwV 3 hts (gdV wdt1_191 wdt1_192 wdt1_193 wdt1_2 gkK1_has) rfl rfl rfl (by decide +kernel) ⟨Nat.le_of_ble_eq_true rfl, Nat.le_of_ble_eq_true rfl⟩) ⟨Pr_blind, va_recv hK hPc (ci := 1) (q0 := 0) rfl rfl, fun U hU hW => ⟨rfl, Pr_at hK hN hPc hDc hU hW⟩⟩ rfl rfl hl.1 rfl (lv_room (Nat.le_of_ble_eq_true rfl)) dK0_offerAbout_186 ⟨Nat.le_of_ble_eq_true rfl, Nat.le_of_ble_eq_true rfl⟩) hP hD hS hA [1, 2, 3, 4] [0, 5, 6, 7, 8, 9, 10, 11, 12, 13, 14, 15, 16, 17, 18, 19, 20] [0, 17, 18, 19, 20, 1, 2, 3, 4, 5, 6, 7, 8, 9, 10, 11, 12, 13, 14, 15, 16] rfl rfl (by decide) (by decide) (by decide) rfl (fun H locs hP hD hS => ?_)
            refine lv_icmp_eq (tgt := 260) hx hb dK0_offerAbout_189 (by decide) (fun hc => ?_) (fun hc => ?_)
            · replace hm := ift hm hc
              replace hm := Option.some.inj hm
              simp only [Prod.mk.injEq] at hm
              obtain ⟨rfl, rfl, rfl, rfl⟩ := hm
              exact k_retv hx hb hr hlocks hP hD hS dK0_offerAbout_260
            · replace hm := iff_ hm hc
              refine lv_aload_n hx hb dK0_offerAbout_192 rfl (lv_at hl 3 rfl) ?_
              refine lv_iload hx hb dK0_offerAbout_193 (lv_at hl 0 rfl) ?_
              refine lv_if_ne (tgt := 202) hx hb dK0_offerAbout_195 (by decide) (fun hc => ?_) (fun hc => ?_)
              · replace hm := iff_ hm hc
                refine lv_iconst (v := 0) hx hb dK0_offerAbout_202 (by decide) ?_
                refine lv_iload_n hx hb dK0_offerAbout_203 rfl (lv_at hl 5 rfl) ?_
                refine lv_iload hx hb dK0_offerAbout_204 (lv_at hl 2 rfl) ?_
                refine lv_iload_n hx hb dK0_offerAbout_206 rfl (lv_at hl 6 rfl) ?_
                obtain ⟨x35, x36, x37, x38, ec39, hm⟩ := bd4_s hm
                have hPc := hP.sub (ws' := (wM oa tra tra1 tra2 tra3 tia tia1 tia2 tia3 rua rua1 rua2 rua3 rua4 cha cha1 cha2 cha3 foa foa1 foa2 sba cI cZ cB cC ocs oal olt ols trso trob trme trwi tiso tiob time tiwi run ruki ruta rupr runu chn chpu chco chwe fon fose fosu)) [0, 1, 2, 3, 4, 5, 6, 7, 8, 9, 10, 11, 12, 13, 14, 15, 16, 17, 18, 19, 20] rfl
                have hDc := hD.sub (ws' := (wM oa tra tra1 tra2 tra3 tia tia1 tia2 tia3 rua rua1 rua2 rua3 rua4 cha cha1 cha2 cha3 foa foa1 foa2 sba cI cZ cB cC ocs oal olt ols trso trob trme trwi tiso tiob time tiwi run ruki ruta rupr runu chn chpu chco chwe fon fose fosu)) [0, 1, 2, 3, 4, 5, 6, 7, 8, 9, 10, 11, 12, 13, 14, 15, 16, 17, 18, 19, 20] (by decide) rfl
                refine k_callv (wr := []) (w1 := (wM oa tra tra1 tra2 tra3 tia tia1 tia2 tia3 rua rua1 rua2 rua3 rua4 cha cha1 cha2 cha3 foa foa1 foa2 sba cI cZ cB cC ocs oal olt ols trso trob trme trwi tiso tiob time tiwi run ruki ruta rupr runu x35 x36 x37 x38 fon fose fosu)) (ws' := (wM oa tra tra1 tra2 tra3 tia tia1 tia2 tia3 rua rua1 rua2 rua3 rua4 cha cha1 cha2 cha3 foa foa1 foa2 sba cI cZ cB cC ocs oal olt ols trso trob trme trwi tiso tiob time tiwi run ruki ruta rupr runu x35 x36 x37 x38 fon fose fosu)) (va_runV (As := [.int 0, .int v2, .int x1, .int v3]) (rest := []) ⟨hx, hb, hml, hown, hts⟩ (kK0_offer l D cI cZ cB cC H.size oa tra tra1 tra2 tra3 tia tia1 tia2 tia3 rua rua1 rua2 rua3 rua4 cha cha1 cha2 cha3 foa foa1 foa2 sba ocs oal olt ols trso trob trme trwi tiso tiob time tiwi run ruki ruta rupr runu chn chpu chco chwe fon fose fosu 0 v2 x1 v3 x35 x36 x37 x38 ec39) (cwV 4 hts (gdV wdt2_88 wdt2_90 wds1_6 wdt1_1 gkK0_offer) rfl rfl rfl (by decide +kernel) ⟨Nat.le_of_ble_eq_true rfl, Nat.le_of_ble_eq_true rfl⟩) ⟨Pr_blind, va_recv hK hPc (ci := 0) (q0 := 0) rfl rfl, fun U hU hW => ⟨rfl, Pr_at hK hN hPc hDc hU hW⟩⟩ rfl rfl hl.1 rfl (lv_room (Nat.le_of_ble_eq_true rfl)) dK0_offerAbout_207 ⟨Nat.le_of_ble_eq_true rfl, Nat.le_of_ble_eq_true rfl⟩) hP hD hS hA [0, 1, 2, 3, 4, 5, 6, 7, 8, 9, 10, 11, 12, 13, 14, 15, 16, 17, 18, 19, 20] [] [0, 1, 2, 3, 4, 5, 6, 7, 8, 9, 10, 11, 12, 13, 14, 15, 16, 17, 18, 19, 20] rfl rfl (by decide) (by decide) (by decide) rfl (fun H locs hP hD hS => ?_)
                refine lv_aload_n hx hb dK0_offerAbout_210 rfl (lv_at hl 3 rfl) ?_
                refine lv_iload hx hb dK0_offerAbout_211 (lv_at hl 0 rfl) ?_
                refine lv_iload_n hx hb dK0_offerAbout_213 rfl (lv_at hl 5 rfl) ?_
                refine lv_iload hx hb dK0_offerAbout_214 (lv_at hl 1 rfl) ?_
                refine lv_iload_n hx hb dK0_offerAbout_216 rfl (lv_at hl 6 rfl) ?_
                obtain ⟨x40, x41, x42, x43, ec44, hm⟩ := bd4_s hm
                have hPc := hP.sub (ws' := (wM oa tra tra1 tra2 tra3 tia tia1 tia2 tia3 rua rua1 rua2 rua3 rua4 cha cha1 cha2 cha3 foa foa1 foa2 sba cI cZ cB cC ocs oal olt ols trso trob trme trwi tiso tiob time tiwi run ruki ruta rupr runu x35 x36 x37 x38 fon fose fosu)) [0, 1, 2, 3, 4, 5, 6, 7, 8, 9, 10, 11, 12, 13, 14, 15, 16, 17, 18, 19, 20] rfl
                have hDc := hD.sub (ws' := (wM oa tra tra1 tra2 tra3 tia tia1 tia2 tia3 rua rua1 rua2 rua3 rua4 cha cha1 cha2 cha3 foa foa1 foa2 sba cI cZ cB cC ocs oal olt ols trso trob trme trwi tiso tiob time tiwi run ruki ruta rupr runu x35 x36 x37 x38 fon fose fosu)) [0, 1, 2, 3, 4, 5, 6, 7, 8, 9, 10, 11, 12, 13, 14, 15, 16, 17, 18, 19, 20] (by decide) rfl
                refine k_callv (wr := []) (w1 := (wM oa tra tra1 tra2 tra3 tia tia1 tia2 tia3 rua rua1 rua2 rua3 rua4 cha cha1 cha2 cha3 foa foa1 foa2 sba cI cZ cB cC ocs oal olt ols trso trob trme trwi tiso tiob time tiwi run ruki ruta rupr runu x40 x41 x42 x43 fon fose fosu)) (ws' := (wM oa tra tra1 tra2 tra3 tia tia1 tia2 tia3 rua rua1 rua2 rua3 rua4 cha cha1 cha2 cha3 foa foa1 foa2 sba cI cZ cB cC ocs oal olt ols trso trob trme trwi tiso tiob time tiwi run ruki ruta rupr runu x40 x41 x42 x43 fon fose fosu)) (va_runV (As := [.int x3, .int v2, .int x2, .int v3]) (rest := []) ⟨hx, hb, hml, hown, hts⟩ (kK0_offer l D cI cZ cB cC H.size oa tra tra1 tra2 tra3 tia tia1 tia2 tia3 rua rua1 rua2 rua3 rua4 cha cha1 cha2 cha3 foa foa1 foa2 sba ocs oal olt ols trso trob trme trwi tiso tiob time tiwi run ruki ruta rupr runu x35 x36 x37 x38 fon fose fosu x3 v2 x2 v3 x40 x41 x42 x43 ec44) (cwV 4 hts (gdV wdt2_88 wdt2_90 wds1_6 wdt1_1 gkK0_offer) rfl rfl rfl (by decide +kernel) ⟨Nat.le_of_ble_eq_true rfl, Nat.le_of_ble_eq_true rfl⟩) ⟨Pr_blind, va_recv hK hPc (ci := 0) (q0 := 0) rfl rfl, fun U hU hW => ⟨rfl, Pr_at hK hN hPc hDc hU hW⟩⟩ rfl rfl hl.1 rfl (lv_room (Nat.le_of_ble_eq_true rfl)) dK0_offerAbout_217 ⟨Nat.le_of_ble_eq_true rfl, Nat.le_of_ble_eq_true rfl⟩) hP hD hS hA [0, 1, 2, 3, 4, 5, 6, 7, 8, 9, 10, 11, 12, 13, 14, 15, 16, 17, 18, 19, 20] [] [0, 1, 2, 3, 4, 5, 6, 7, 8, 9, 10, 11, 12, 13, 14, 15, 16, 17, 18, 19, 20] rfl rfl (by decide) (by decide) (by decide) rfl (fun H locs hP hD hS => ?_)
                refine lv_goto (tgt := 260) hx hb dK0_offerAbout_220 (by decide) ?_
                replace hm := Option.some.inj hm
                simp only [Prod.mk.injEq] at hm
                obtain ⟨rfl, rfl, rfl, rfl⟩ := hm
                exact k_retv hx hb hr hlocks hP hD hS dK0_offerAbout_260
              · replace hm := ift hm hc
                refine lv_iconst (v := 1) hx hb dK0_offerAbout_198 (by decide) ?_
                refine lv_goto (tgt := 203) hx hb dK0_offerAbout_199 (by decide) ?_
                refine lv_iload_n hx hb dK0_offerAbout_203 rfl (lv_at hl 5 rfl) ?_
                refine lv_iload hx hb dK0_offerAbout_204 (lv_at hl 2 rfl) ?_
                refine lv_iload_n hx hb dK0_offerAbout_206 rfl (lv_at hl 6 rfl) ?_
                obtain ⟨x45, x46, x47, x48, ec49, hm⟩ := bd4_s hm
                have hPc := hP.sub (ws' := (wM oa tra tra1 tra2 tra3 tia tia1 tia2 tia3 rua rua1 rua2 rua3 rua4 cha cha1 cha2 cha3 foa foa1 foa2 sba cI cZ cB cC ocs oal olt ols trso trob trme trwi tiso tiob time tiwi run ruki ruta rupr runu chn chpu chco chwe fon fose fosu)) [0, 1, 2, 3, 4, 5, 6, 7, 8, 9, 10, 11, 12, 13, 14, 15, 16, 17, 18, 19, 20] rfl
                have hDc := hD.sub (ws' := (wM oa tra tra1 tra2 tra3 tia tia1 tia2 tia3 rua rua1 rua2 rua3 rua4 cha cha1 cha2 cha3 foa foa1 foa2 sba cI cZ cB cC ocs oal olt ols trso trob trme trwi tiso tiob time tiwi run ruki ruta rupr runu chn chpu chco chwe fon fose fosu)) [0, 1, 2, 3, 4, 5, 6, 7, 8, 9, 10, 11, 12, 13, 14, 15, 16, 17, 18, 19, 20] (by decide) rfl
                refine k_callv (wr := []) (w1 := (wM oa tra tra1 tra2 tra3 tia tia1 tia2 tia3 rua rua1 rua2 rua3 rua4 cha cha1 cha2 cha3 foa foa1 foa2 sba cI cZ cB cC ocs oal olt ols trso trob trme trwi tiso tiob time tiwi run ruki ruta rupr runu x45 x46 x47 x48 fon fose fosu)) (ws' := (wM oa tra tra1 tra2 tra3 tia tia1 tia2 tia3 rua rua1 rua2 rua3 rua4 cha cha1 cha2 cha3 foa foa1 foa2 sba cI cZ cB cC ocs oal olt ols trso trob trme trwi tiso tiob time tiwi run ruki ruta rupr runu x45 x46 x47 x48 fon fose fosu)) (va_runV (As := [.int 1, .int v2, .int x1, .int v3]) (rest := []) ⟨hx, hb, hml, hown, hts⟩ (kK0_offer l D cI cZ cB cC H.size oa tra tra1 tra2 tra3 tia tia1 tia2 tia3 rua rua1 rua2 rua3 rua4 cha cha1 cha2 cha3 foa foa1 foa2 sba ocs oal olt ols trso trob trme trwi tiso tiob time tiwi run ruki ruta rupr runu chn chpu chco chwe fon fose fosu 1 v2 x1 v3 x45 x46 x47 x48 ec49) (cwV 4 hts (gdV wdt2_88 wdt2_90 wds1_6 wdt1_1 gkK0_offer) rfl rfl rfl (by decide +kernel) ⟨Nat.le_of_ble_eq_true rfl, Nat.le_of_ble_eq_true rfl⟩) ⟨Pr_blind, va_recv hK hPc (ci := 0) (q0 := 0) rfl rfl, fun U hU hW => ⟨rfl, Pr_at hK hN hPc hDc hU hW⟩⟩ rfl rfl hl.1 rfl (lv_room (Nat.le_of_ble_eq_true rfl)) dK0_offerAbout_207 ⟨Nat.le_of_ble_eq_true rfl, Nat.le_of_ble_eq_true rfl⟩) hP hD hS hA [0, 1, 2, 3, 4, 5, 6, 7, 8, 9, 10, 11, 12, 13, 14, 15, 16, 17, 18, 19, 20] [] [0, 1, 2, 3, 4, 5, 6, 7, 8, 9, 10, 11, 12, 13, 14, 15, 16, 17, 18, 19, 20] rfl rfl (by decide) (by decide) (by decide) rfl (fun H locs hP hD hS => ?_)
                refine lv_aload_n hx hb dK0_offerAbout_210 rfl (lv_at hl 3 rfl) ?_
                refine lv_iload hx hb dK0_offerAbout_211 (lv_at hl 0 rfl) ?_
                refine lv_iload_n hx hb dK0_offerAbout_213 rfl (lv_at hl 5 rfl) ?_
                refine lv_iload hx hb dK0_offerAbout_214 (lv_at hl 1 rfl) ?_
                refine lv_iload_n hx hb dK0_offerAbout_216 rfl (lv_at hl 6 rfl) ?_
                obtain ⟨x50, x51, x52, x53, ec54, hm⟩ := bd4_s hm
                have hPc := hP.sub (ws' := (wM oa tra tra1 tra2 tra3 tia tia1 tia2 tia3 rua rua1 rua2 rua3 rua4 cha cha1 cha2 cha3 foa foa1 foa2 sba cI cZ cB cC ocs oal olt ols trso trob trme trwi tiso tiob time tiwi run ruki ruta rupr runu x45 x46 x47 x48 fon fose fosu)) [0, 1, 2, 3, 4, 5, 6, 7, 8, 9, 10, 11, 12, 13, 14, 15, 16, 17, 18, 19, 20] rfl
                have hDc := hD.sub (ws' := (wM oa tra tra1 tra2 tra3 tia tia1 tia2 tia3 rua rua1 rua2 rua3 rua4 cha cha1 cha2 cha3 foa foa1 foa2 sba cI cZ cB cC ocs oal olt ols trso trob trme trwi tiso tiob time tiwi run ruki ruta rupr runu x45 x46 x47 x48 fon fose fosu)) [0, 1, 2, 3, 4, 5, 6, 7, 8, 9, 10, 11, 12, 13, 14, 15, 16, 17, 18, 19, 20] (by decide) rfl
                refine k_callv (wr := []) (w1 := (wM oa tra tra1 tra2 tra3 tia tia1 tia2 tia3 rua rua1 rua2 rua3 rua4 cha cha1 cha2 cha3 foa foa1 foa2 sba cI cZ cB cC ocs oal olt ols trso trob trme trwi tiso tiob time tiwi run ruki ruta rupr runu x50 x51 x52 x53 fon fose fosu)) (ws' := (wM oa tra tra1 tra2 tra3 tia tia1 tia2 tia3 rua rua1 rua2 rua3 rua4 cha cha1 cha2 cha3 foa foa1 foa2 sba cI cZ cB cC ocs oal olt ols trso trob trme trwi tiso tiob time tiwi run ruki ruta rupr runu x50 x51 x52 x53 fon fose fosu)) (va_runV (As := [.int x3, .int v2, .int x2, .int v3]) (rest := []) ⟨hx, hb, hml, hown, hts⟩ (kK0_offer l D cI cZ cB cC H.size oa tra tra1 tra2 tra3 tia tia1 tia2 tia3 rua rua1 rua2 rua3 rua4 cha cha1 cha2 cha3 foa foa1 foa2 sba ocs oal olt ols trso trob trme trwi tiso tiob time tiwi run ruki ruta rupr runu x45 x46 x47 x48 fon fose fosu x3 v2 x2 v3 x50 x51 x52 x53 ec54) (cwV 4 hts (gdV wdt2_88 wdt2_90 wds1_6 wdt1_1 gkK0_offer) rfl rfl rfl (by decide +kernel) ⟨Nat.le_of_ble_eq_true rfl, Nat.le_of_ble_eq_true rfl⟩) ⟨Pr_blind, va_recv hK hPc (ci := 0) (q0 := 0) rfl rfl, fun U hU hW => ⟨rfl, Pr_at hK hN hPc hDc hU hW⟩⟩ rfl rfl hl.1 rfl (lv_room (Nat.le_of_ble_eq_true rfl)) dK0_offerAbout_217 ⟨Nat.le_of_ble_eq_true rfl, Nat.le_of_ble_eq_true rfl⟩) hP hD hS hA [0, 1, 2, 3, 4, 5, 6, 7, 8, 9, 10, 11, 12, 13, 14, 15, 16, 17, 18, 19, 20] [] [0, 1, 2, 3, 4, 5, 6, 7, 8, 9, 10, 11, 12, 13, 14, 15, 16, 17, 18, 19, 20] rfl rfl (by decide) (by decide) (by decide) rfl (fun H locs hP hD hS => ?_)
                refine lv_goto (tgt := 260) hx hb dK0_offerAbout_220 (by decide) ?_
                replace hm := Option.some.inj hm
                simp only [Prod.mk.injEq] at hm
                obtain ⟨rfl, rfl, rfl, rfl⟩ := hm
                exact k_retv hx hb hr hlocks hP hD hS dK0_offerAbout_260
          · replace hm := iff_ hm hc44_4
            refine lv_tableOut (tgt := 223) hx hb dK0_offerAbout_44 (tabout5_0 hc44_0 hc44_1 hc44_2 hc44_3 hc44_4) (by decide) ?_
            refine lv_iload hx hb dK0_offerAbout_223 (lv_at hl 0 rfl) ?_
            refine lv_if_eq (tgt := 260) hx hb dK0_offerAbout_225 (by decide) (fun hc => ?_) (fun hc => ?_)
            · replace hm := ift hm hc
              replace hm := Option.some.inj hm
              simp only [Prod.mk.injEq] at hm
              obtain ⟨rfl, rfl, rfl, rfl⟩ := hm
              exact k_retv hx hb hr hlocks hP hD hS dK0_offerAbout_260
            · replace hm := iff_ hm hc
              refine lv_aload_n hx hb dK0_offerAbout_228 rfl (lv_at hl 3 rfl) ?_
              refine va_get (D := D) (ci := 0) (v := .ref tra) (C := RK0) (T := TK0) (N := 10) hx hb hts inK0 hown hK hP 0 rfl rfl 0 (by decide) (hts _ wdt1_143) (fun _ h9 => h9) rfl dK0_offerAbout_229 ?_
              refine lv_iload_n hx hb dK0_offerAbout_232 rfl (lv_at hl 5 rfl) ?_
              refine lv_iload hx hb dK0_offerAbout_233 (lv_at hl 1 rfl) ?_
              refine lv_iload_n hx hb dK0_offerAbout_235 rfl (lv_at hl 6 rfl) ?_
              obtain ⟨x55, ec56, hm⟩ := bd1_s hm
              have hPc := hP.sub (ws' := (wT tra tra1 tra2 tra3 cI cZ cB cC trso trob trme trwi)) [1, 2, 3, 4] rfl
              have hDc := hD.sub (ws' := (wT tra tra1 tra2 tra3 cI cZ cB cC trso trob trme trwi)) [1, 2, 3, 4] (by decide) rfl
              refine k_calli (wr := [(oa, .inr (0, [.ref tra, .ref tia, .ref rua, .ref cha, .ref foa, .ref sba, .int ocs, .int oal, .int olt, .int ols])), (tia, .inr (1, [.ref tia1, .ref tia2, .ref tia3, .int tiso])), (tia1, .inl (cI, 72, .inl tiob)), (tia2, .inl (cI, 12, .inl time)), (tia3, .inl (cI, 12, .inl tiwi)), (rua, .inr (2, [.ref rua1, .ref rua2, .ref rua3, .ref rua4, .int run])), (rua1, .inl (cI, 10, .inl ruki)), (rua2, .inl (cI, 10, .inl ruta)), (rua3, .inl (cI, 10, .inl rupr)), (rua4, .inl (cI, 10, .inl runu)), (cha, .inr (3, [.ref cha1, .ref cha2, .ref cha3, .int chn])), (cha1, .inl (cZ, 12, .inl chpu)), (cha2, .inl (cI, 12, .inl chco)), (cha3, .inl (cI, 12, .inl chwe)), (foa, .inr (4, [.ref foa1, .ref foa2, .int fon])), (foa1, .inl (cI, 30, .inl fose)), (foa2, .inl (cI, 30, .inl fosu))]) (w1 := (wT tra tra1 tra2 tra3 cI cZ cB cC trso trob trme trwi)) (ws' := (wM oa tra tra1 tra2 tra3 tia tia1 tia2 tia3 rua rua1 rua2 rua3 rua4 cha cha1 cha2 cha3 foa foa1 foa2 sba cI cZ cB cC ocs oal olt ols trso trob trme trwi tiso tiob time tiwi run ruki ruta rupr runu chn chpu chco chwe fon fose fosu)) (va_runV (As := [.int v2, .int x2, .int v3]) (rest := []) ⟨hx, hb, hml, hown, hts⟩ (kK1_has l D cI cZ cB cC H.size tra tra1 tra2 tra3 trso trob trme trwi v2 x2 v3 x55 ec56) (cwV 3 hts (gdV wdt1_191 wdt1_192 wdt1_193 wdt1_2 gkK1_has) rfl rfl rfl (by decide +kernel) ⟨Nat.le_of_ble_eq_true rfl, Nat.le_of_ble_eq_true rfl⟩) ⟨Pr_blind, va_recv hK hPc (ci := 1) (q0 := 0) rfl rfl, fun U hU hW => ⟨rfl, Pr_at hK hN hPc hDc hU hW⟩⟩ rfl rfl hl.1 rfl (lv_room (Nat.le_of_ble_eq_true rfl)) dK0_offerAbout_236 ⟨Nat.le_of_ble_eq_true rfl, Nat.le_of_ble_eq_true rfl⟩) hP hD hS hA [1, 2, 3, 4] [0, 5, 6, 7, 8, 9, 10, 11, 12, 13, 14, 15, 16, 17, 18, 19, 20] [0, 17, 18, 19, 20, 1, 2, 3, 4, 5, 6, 7, 8, 9, 10, 11, 12, 13, 14, 15, 16] rfl rfl (by decide) (by decide) (by decide) rfl (fun H locs hP hD hS => ?_)
              refine lv_if_eq (tgt := 260) hx hb dK0_offerAbout_239 (by decide) (fun hc => ?_) (fun hc => ?_)
              · replace hm := ift hm hc
                replace hm := Option.some.inj hm
                simp only [Prod.mk.injEq] at hm
                obtain ⟨rfl, rfl, rfl, rfl⟩ := hm
                exact k_retv hx hb hr hlocks hP hD hS dK0_offerAbout_260
              · replace hm := iff_ hm hc
                refine lv_aload_n hx hb dK0_offerAbout_242 rfl (lv_at hl 3 rfl) ?_
                refine lv_iconst (v := 0) hx hb dK0_offerAbout_243 (by decide) ?_
                refine lv_iload_n hx hb dK0_offerAbout_244 rfl (lv_at hl 5 rfl) ?_
                refine lv_iload hx hb dK0_offerAbout_245 (lv_at hl 2 rfl) ?_
                refine lv_iload_n hx hb dK0_offerAbout_247 rfl (lv_at hl 6 rfl) ?_
                obtain ⟨x57, x58, x59, x60, ec61, hm⟩ := bd4_s hm
                have hPc := hP.sub (ws' := (wM oa tra tra1 tra2 tra3 tia tia1 tia2 tia3 rua rua1 rua2 rua3 rua4 cha cha1 cha2 cha3 foa foa1 foa2 sba cI cZ cB cC ocs oal olt ols trso trob trme trwi tiso tiob time tiwi run ruki ruta rupr runu chn chpu chco chwe fon fose fosu)) [0, 1, 2, 3, 4, 5, 6, 7, 8, 9, 10, 11, 12, 13, 14, 15, 16, 17, 18, 19, 20] rfl
                have hDc := hD.sub (ws' := (wM oa tra tra1 tra2 tra3 tia tia1 tia2 tia3 rua rua1 rua2 rua3 rua4 cha cha1 cha2 cha3 foa foa1 foa2 sba cI cZ cB cC ocs oal olt ols trso trob trme trwi tiso tiob time tiwi run ruki ruta rupr runu chn chpu chco chwe fon fose fosu)) [0, 1, 2, 3, 4, 5, 6, 7, 8, 9, 10, 11, 12, 13, 14, 15, 16, 17, 18, 19, 20] (by decide) rfl
                refine k_callv (wr := []) (w1 := (wM oa tra tra1 tra2 tra3 tia tia1 tia2 tia3 rua rua1 rua2 rua3 rua4 cha cha1 cha2 cha3 foa foa1 foa2 sba cI cZ cB cC ocs oal olt ols trso trob trme trwi tiso tiob time tiwi run ruki ruta rupr runu x57 x58 x59 x60 fon fose fosu)) (ws' := (wM oa tra tra1 tra2 tra3 tia tia1 tia2 tia3 rua rua1 rua2 rua3 rua4 cha cha1 cha2 cha3 foa foa1 foa2 sba cI cZ cB cC ocs oal olt ols trso trob trme trwi tiso tiob time tiwi run ruki ruta rupr runu x57 x58 x59 x60 fon fose fosu)) (va_runV (As := [.int 0, .int v2, .int x1, .int v3]) (rest := []) ⟨hx, hb, hml, hown, hts⟩ (kK0_offer l D cI cZ cB cC H.size oa tra tra1 tra2 tra3 tia tia1 tia2 tia3 rua rua1 rua2 rua3 rua4 cha cha1 cha2 cha3 foa foa1 foa2 sba ocs oal olt ols trso trob trme trwi tiso tiob time tiwi run ruki ruta rupr runu chn chpu chco chwe fon fose fosu 0 v2 x1 v3 x57 x58 x59 x60 ec61) (cwV 4 hts (gdV wdt2_88 wdt2_90 wds1_6 wdt1_1 gkK0_offer) rfl rfl rfl (by decide +kernel) ⟨Nat.le_of_ble_eq_true rfl, Nat.le_of_ble_eq_true rfl⟩) ⟨Pr_blind, va_recv hK hPc (ci := 0) (q0 := 0) rfl rfl, fun U hU hW => ⟨rfl, Pr_at hK hN hPc hDc hU hW⟩⟩ rfl rfl hl.1 rfl (lv_room (Nat.le_of_ble_eq_true rfl)) dK0_offerAbout_248 ⟨Nat.le_of_ble_eq_true rfl, Nat.le_of_ble_eq_true rfl⟩) hP hD hS hA [0, 1, 2, 3, 4, 5, 6, 7, 8, 9, 10, 11, 12, 13, 14, 15, 16, 17, 18, 19, 20] [] [0, 1, 2, 3, 4, 5, 6, 7, 8, 9, 10, 11, 12, 13, 14, 15, 16, 17, 18, 19, 20] rfl rfl (by decide) (by decide) (by decide) rfl (fun H locs hP hD hS => ?_)
                refine lv_aload_n hx hb dK0_offerAbout_251 rfl (lv_at hl 3 rfl) ?_
                refine lv_iconst (v := 0) hx hb dK0_offerAbout_252 (by decide) ?_
                refine lv_iload_n hx hb dK0_offerAbout_253 rfl (lv_at hl 5 rfl) ?_
                refine lv_iload hx hb dK0_offerAbout_254 (lv_at hl 1 rfl) ?_
                refine lv_iload_n hx hb dK0_offerAbout_256 rfl (lv_at hl 6 rfl) ?_
                obtain ⟨x62, x63, x64, x65, ec66, hm⟩ := bd4_s hm
                have hPc := hP.sub (ws' := (wM oa tra tra1 tra2 tra3 tia tia1 tia2 tia3 rua rua1 rua2 rua3 rua4 cha cha1 cha2 cha3 foa foa1 foa2 sba cI cZ cB cC ocs oal olt ols trso trob trme trwi tiso tiob time tiwi run ruki ruta rupr runu x57 x58 x59 x60 fon fose fosu)) [0, 1, 2, 3, 4, 5, 6, 7, 8, 9, 10, 11, 12, 13, 14, 15, 16, 17, 18, 19, 20] rfl
                have hDc := hD.sub (ws' := (wM oa tra tra1 tra2 tra3 tia tia1 tia2 tia3 rua rua1 rua2 rua3 rua4 cha cha1 cha2 cha3 foa foa1 foa2 sba cI cZ cB cC ocs oal olt ols trso trob trme trwi tiso tiob time tiwi run ruki ruta rupr runu x57 x58 x59 x60 fon fose fosu)) [0, 1, 2, 3, 4, 5, 6, 7, 8, 9, 10, 11, 12, 13, 14, 15, 16, 17, 18, 19, 20] (by decide) rfl
                refine k_callv (wr := []) (w1 := (wM oa tra tra1 tra2 tra3 tia tia1 tia2 tia3 rua rua1 rua2 rua3 rua4 cha cha1 cha2 cha3 foa foa1 foa2 sba cI cZ cB cC ocs oal olt ols trso trob trme trwi tiso tiob time tiwi run ruki ruta rupr runu x62 x63 x64 x65 fon fose fosu)) (ws' := (wM oa tra tra1 tra2 tra3 tia tia1 tia2 tia3 rua rua1 rua2 rua3 rua4 cha cha1 cha2 cha3 foa foa1 foa2 sba cI cZ cB cC ocs oal olt ols trso trob trme trwi tiso tiob time tiwi run ruki ruta rupr runu x62 x63 x64 x65 fon fose fosu)) (va_runV (As := [.int 0, .int v2, .int x2, .int v3]) (rest := []) ⟨hx, hb, hml, hown, hts⟩ (kK0_offer l D cI cZ cB cC H.size oa tra tra1 tra2 tra3 tia tia1 tia2 tia3 rua rua1 rua2 rua3 rua4 cha cha1 cha2 cha3 foa foa1 foa2 sba ocs oal olt ols trso trob trme trwi tiso tiob time tiwi run ruki ruta rupr runu x57 x58 x59 x60 fon fose fosu 0 v2 x2 v3 x62 x63 x64 x65 ec66) (cwV 4 hts (gdV wdt2_88 wdt2_90 wds1_6 wdt1_1 gkK0_offer) rfl rfl rfl (by decide +kernel) ⟨Nat.le_of_ble_eq_true rfl, Nat.le_of_ble_eq_true rfl⟩) ⟨Pr_blind, va_recv hK hPc (ci := 0) (q0 := 0) rfl rfl, fun U hU hW => ⟨rfl, Pr_at hK hN hPc hDc hU hW⟩⟩ rfl rfl hl.1 rfl (lv_room (Nat.le_of_ble_eq_true rfl)) dK0_offerAbout_257 ⟨Nat.le_of_ble_eq_true rfl, Nat.le_of_ble_eq_true rfl⟩) hP hD hS hA [0, 1, 2, 3, 4, 5, 6, 7, 8, 9, 10, 11, 12, 13, 14, 15, 16, 17, 18, 19, 20] [] [0, 1, 2, 3, 4, 5, 6, 7, 8, 9, 10, 11, 12, 13, 14, 15, 16, 17, 18, 19, 20] rfl rfl (by decide) (by decide) (by decide) rfl (fun H locs hP hD hS => ?_)
                replace hm := Option.some.inj hm
                simp only [Prod.mk.injEq] at hm
                obtain ⟨rfl, rfl, rfl, rfl⟩ := hm
                exact k_retv hx hb hr hlocks hP hD hS dK0_offerAbout_260
