def mK0_suggest_A84 (chn : Int32) (chnx84 : Int32) (chpux84 : Nat → Int32) (chcox84 : Nat → Int32) (chwex84 : Nat → Int32) : Option (Int32 × Int32 × (Nat → Int32) × (Nat → Int32) × (Nat → Int32)) :=
  some (chnx84 - chn, chnx84, chpux84, chcox84, chwex84)
def mK0_suggest_B84 (trob : Nat → Int32) (trme : Nat → Int32) (ruki : Nat → Int32) (rupr : Nat → Int32) (runu : Nat → Int32) (v1 : Int32) (v2 : Int32) (kx84 : Int32 → (Nat → Int32) → (Nat → Int32) → (Nat → Int32) → (Option (Int32 × Int32 × (Nat → Int32) × (Nat → Int32) × (Nat → Int32)))) (rc84 : Int32 → Int32 → (Nat → Int32) → (Nat → Int32) → (Nat → Int32) → (Option (Int32 × Int32 × (Nat → Int32) × (Nat → Int32) × (Nat → Int32)))) (i5l84 : Int32) (chnl84 : Int32) (chpul84 : Nat → Int32) (chcol84 : Nat → Int32) (chwel84 : Nat → Int32) : Option (Int32 × Int32 × (Nat → Int32) × (Nat → Int32) × (Nat → Int32)) :=
  if 12 ≤ i5l84 then
  (kx84 chnl84 chpul84 chcol84 chwel84)
  else
  (bd4 (mK0_offerAbout trob trme ruki rupr runu chnl84 chpul84 chcol84 chwel84 v1 v2 i5l84) fun x10 x11 x12 x13 => bd1 (some (i5l84 + 1)) fun x15 => rc84 x15 x10 x11 x12 x13)
def mK0_suggest_L84 (trob : Nat → Int32) (trme : Nat → Int32) (ruki : Nat → Int32) (rupr : Nat → Int32) (runu : Nat → Int32) (v1 : Int32) (v2 : Int32) (kx84 : Int32 → (Nat → Int32) → (Nat → Int32) → (Nat → Int32) → (Option (Int32 × Int32 × (Nat → Int32) × (Nat → Int32) × (Nat → Int32)))) : Nat → Int32 → Int32 → (Nat → Int32) → (Nat → Int32) → (Nat → Int32) → (Option (Int32 × Int32 × (Nat → Int32) × (Nat → Int32) × (Nat → Int32)))
  | 0, _, _, _, _, _ => none
  | n + 1, i5l84, chnl84, chpul84, chcol84, chwel84 => mK0_suggest_B84 trob trme ruki rupr runu v1 v2 kx84 (mK0_suggest_L84 trob trme ruki rupr runu v1 v2 kx84 n) i5l84 chnl84 chpul84 chcol84 chwel84
def mK0_suggest_J81 (trob : Nat → Int32) (trme : Nat → Int32) (ruki : Nat → Int32) (rupr : Nat → Int32) (runu : Nat → Int32) (chn : Int32) (v1 : Int32) (v2 : Int32) (chnj81 : Int32) (chpuj81 : Nat → Int32) (chcoj81 : Nat → Int32) (chwej81 : Nat → Int32) : Option (Int32 × Int32 × (Nat → Int32) × (Nat → Int32) × (Nat → Int32)) :=
  mK0_suggest_L84 trob trme ruki rupr runu v1 v2 (mK0_suggest_A84 chn) 5000 0 chnj81 chpuj81 chcoj81 chwej81
def mK0_suggest (trob : Nat → Int32) (trme : Nat → Int32) (run : Int32) (ruki : Nat → Int32) (ruta : Nat → Int32) (rupr : Nat → Int32) (runu : Nat → Int32) (chn : Int32) (chpu : Nat → Int32) (chco : Nat → Int32) (chwe : Nat → Int32) (v1 : Int32) (v2 : Int32) : Option (Int32 × Int32 × (Nat → Int32) × (Nat → Int32) × (Nat → Int32)) :=
  bd1 (mK2_has run v1) fun x1 => if x1 = 0 then
  (some ((-1), chn, chpu, chco, chwe))
  else
  (bd1 (mK0_isNode v2) fun x3 => if x3 = 0 then
    (some ((-1), chn, chpu, chco, chwe))
    else
    (bd1 (mK2_fails ruki ruta rupr runu trob trme v1 v2) fun x5 => if x5 = 0 then
      (some ((-2), chn, chpu, chco, chwe))
      else
      (bd1 (rd ruta 10 v1) fun x7 => bd1 (mK1_has trob v2 0 x7) fun x8 => if x8 = 0 then
        (mK0_suggest_J81 trob trme ruki rupr runu chn v1 v2 chn chpu chco chwe)
        else
        (bd4 (mK0_offer chn chpu chco chwe 0 v2 0 x7) fun x16 x17 x18 x19 => mK0_suggest_J81 trob trme ruki rupr runu chn v1 v2 x16 x17 x18 x19))))
abbrev rmK0_suggest : Room := { frames := 3, cells := 0, slots := 0, locals := 74 }
set_option maxHeartbeats 4000000 in
set_option maxRecDepth 100000 in
theorem kK0_suggest (l : Launch) (D : va_G) (cI cZ cB cC : ClassId) (sz : Nat) (oa : Nat) (tra : Nat) (tra1 : Nat) (tra2 : Nat) (tra3 : Nat) (tia : Nat) (tia1 : Nat) (tia2 : Nat) (tia3 : Nat) (rua : Nat) (rua1 : Nat) (rua2 : Nat) (rua3 : Nat) (rua4 : Nat) (cha : Nat) (cha1 : Nat) (cha2 : Nat) (cha3 : Nat) (foa : Nat) (foa1 : Nat) (foa2 : Nat) (sba : Nat) (ocs : Int32) (oal : Int32) (olt : Int32) (ols : Int32) (trso : Int32) (trob : Nat → Int32) (trme : Nat → Int32) (trwi : Nat → Int32) (tiso : Int32) (tiob : Nat → Int32) (time : Nat → Int32) (tiwi : Nat → Int32) (run : Int32) (ruki : Nat → Int32) (ruta : Nat → Int32) (rupr : Nat → Int32) (runu : Nat → Int32) (chn : Int32) (chpu : Nat → Int32) (chco : Nat → Int32) (chwe : Nat → Int32) (fon : Int32) (fose : Nat → Int32) (fosu : Nat → Int32) (v1 : Int32) (v2 : Int32) (r0 : Int32) (chn_r : Int32) (chpu_r : Nat → Int32) (chco_r : Nat → Int32) (chwe_r : Nat → Int32) (hm : mK0_suggest trob trme run ruki ruta rupr runu chn chpu chco chwe v1 v2 = some (r0, chn_r, chpu_r, chco_r, chwe_r)) : Met l yK0_suggest wsK0_suggest rmK0_suggest (va_Pc [.ref oa, .int v1, .int v2] (Pr D (tyL cI cZ cB cC) sz (wM oa tra tra1 tra2 tra3 tia tia1 tia2 tia3 rua rua1 rua2 rua3 rua4 cha cha1 cha2 cha3 foa foa1 foa2 sba cI cZ cB cC ocs oal olt ols trso trob trme trwi tiso tiob time tiwi run ruki ruta rupr runu chn chpu chco chwe fon fose fosu))) (QI D (va_A (wM oa tra tra1 tra2 tra3 tia tia1 tia2 tia3 rua rua1 rua2 rua3 rua4 cha cha1 cha2 cha3 foa foa1 foa2 sba cI cZ cB cC ocs oal olt ols trso trob trme trwi tiso tiob time tiwi run ruki ruta rupr runu chn chpu chco chwe fon fose fosu) sz) r0 (wM oa tra tra1 tra2 tra3 tia tia1 tia2 tia3 rua rua1 rua2 rua3 rua4 cha cha1 cha2 cha3 foa foa1 foa2 sba cI cZ cB cC ocs oal olt ols trso trob trme trwi tiso tiob time tiwi run ruki ruta rupr runu chn_r chpu_r chco_r chwe_r fon fose fosu)) 0 0 (va_A (wM oa tra tra1 tra2 tra3 tia tia1 tia2 tia3 rua rua1 rua2 rua3 rua4 cha cha1 cha2 cha3 foa foa1 foa2 sba cI cZ cB cC ocs oal olt ols trso trob trme trwi tiso tiob time tiwi run ruki ruta rupr runu chn chpu chco chwe fon fose fosu) sz) := by
  refine Met.ofW (cc := cK0_suggest) (maxL := 6) (ret := (some .int)) (by decide) rfl ?_
  intro p e s m args below meth c s₁ B hml hv
  obtain ⟨rfl, hsz, hP, hK, hD0, hN⟩ := hv
  have hx := B.exec
  have hb := B.bytes
  have hr := B.returns
  have hts := htsA (atoms_spec (ws := wsK0_suggest) B.pre)
  have hown : s.vm.findClass RK0 = some m.cls := findClass_of_methodNamed B.named
  have hlocks := B.notSynchronized
  subst hsz
  have hD := hD0.self (sz := s.heap.size)
  generalize hAe : va_A (wM oa tra tra1 tra2 tra3 tia tia1 tia2 tia3 rua rua1 rua2 rua3 rua4 cha cha1 cha2 cha3 foa foa1 foa2 sba cI cZ cB cC ocs oal olt ols trso trob trme trwi tiso tiob time tiwi run ruki ruta rupr runu chn chpu chco chwe fon fose fosu) s.heap.size = A at hD ⊢
  have hA : ∀ q : Nat, s.heap.size ≤ q → A q := fun q h => by rw [← hAe]; exact Or.inr h
  refine kstart (A := A) hP (fun H hP hS => ?_)
  have hl := lv_entry ([.ref oa, .int v1, .int v2]) (n := 6) (Nat.le_of_ble_eq_true rfl)
  rw [lg_entry_eq]
  generalize (lg_sl ([.ref oa, .int v1, .int v2]) ++ List.replicate (6 - (lg_sl ([.ref oa, .int v1, .int v2])).length) Slot.unset).toArray = ls at hl ⊢
  have hl : lv_has ls 6 [(0, .ref oa), (1, .int v1), (2, .int v2)] := hl
  unfold mK0_suggest at hm
  refine lv_aload_n hx hb dK0_suggest_0 rfl (lv_at hl 0 rfl) ?_
  refine va_get (D := D) (ci := 0) (v := .ref rua) (C := RK0) (T := TK0) (N := 10) hx hb hts inK0 hown hK hP 0 rfl rfl 2 (by decide) (hts _ wdt1_145) (fun _ h9 => h9) rfl dK0_suggest_1 ?_
  refine lv_iload_n hx hb dK0_suggest_4 rfl (lv_at hl 1 rfl) ?_
  obtain ⟨x1, ec2, hm⟩ := bd1_s hm
  have hPc := hP.sub (ws' := (wR rua rua1 rua2 rua3 rua4 cI cZ cB cC run ruki ruta rupr runu)) [9, 10, 11, 12, 13] rfl
  have hDc := hD.sub (ws' := (wR rua rua1 rua2 rua3 rua4 cI cZ cB cC run ruki ruta rupr runu)) [9, 10, 11, 12, 13] (by decide) rfl
  refine k_calli (wr := [(oa, .inr (0, [.ref tra, .ref tia, .ref rua, .ref cha, .ref foa, .ref sba, .int ocs, .int oal, .int olt, .int ols])), (tra, .inr (1, [.ref tra1, .ref tra2, .ref tra3, .int trso])), (tra1, .inl (cI, 72, .inl trob)), (tra2, .inl (cI, 12, .inl trme)), (tra3, .inl (cI, 12, .inl trwi)), (tia, .inr (1, [.ref tia1, .ref tia2, .ref tia3, .int tiso])), (tia1, .inl (cI, 72, .inl tiob)), (tia2, .inl (cI, 12, .inl time)), (tia3, .inl (cI, 12, .inl tiwi)), (cha, .inr (3, [.ref cha1, .ref cha2, .ref cha3, .int chn])), (cha1, .inl (cZ, 12, .inl chpu)), (cha2, .inl (cI, 12, .inl chco)), (cha3, .inl (cI, 12, .inl chwe)), (foa, .inr (4, [.ref foa1, .ref foa2, .int fon])), (foa1, .inl (cI, 30, .inl fose)), (foa2, .inl (cI, 30, .inl fosu))]) (w1 := (wR rua rua1 rua2 rua3 rua4 cI cZ cB cC run ruki ruta rupr runu)) (ws' := (wM oa tra tra1 tra2 tra3 tia tia1 tia2 tia3 rua rua1 rua2 rua3 rua4 cha cha1 cha2 cha3 foa foa1 foa2 sba cI cZ cB cC ocs oal olt ols trso trob trme trwi tiso tiob time tiwi run ruki ruta rupr runu chn chpu chco chwe fon fose fosu)) (va_runV (As := [.int v1]) (rest := []) ⟨hx, hb, hml, hown, hts⟩ (kK2_has l D cI cZ cB cC H.size rua rua1 rua2 rua3 rua4 run ruki ruta rupr runu v1 x1 ec2) (cwV 1 hts (gdV wdt2_79 wdt2_80 wdt2_81 wdt1_3 gkK2_has) rfl rfl rfl (by decide +kernel) ⟨Nat.le_of_ble_eq_true rfl, Nat.le_of_ble_eq_true rfl⟩) ⟨Pr_blind, va_recv hK hPc (ci := 2) (q0 := 0) rfl rfl, fun U hU hW => ⟨rfl, Pr_at hK hN hPc hDc hU hW⟩⟩ rfl rfl hl.1 rfl (lv_room (Nat.le_of_ble_eq_true rfl)) dK0_suggest_5 ⟨Nat.le_of_ble_eq_true rfl, Nat.le_of_ble_eq_true rfl⟩) hP hD hS hA [9, 10, 11, 12, 13] [0, 1, 2, 3, 4, 5, 6, 7, 8, 14, 15, 16, 17, 18, 19, 20] [0, 1, 2, 3, 4, 5, 6, 7, 8, 16, 17, 18, 19, 20, 9, 10, 11, 12, 13, 14, 15] rfl rfl (by decide) (by decide) (by decide) rfl (fun H locs hP hD hS => ?_)
  refine lv_if_eq (tgt := 18) hx hb dK0_suggest_8 (by decide) (fun hc => ?_) (fun hc => ?_)
  · replace hm := ift hm hc
    refine lv_iconst (v := (-1)) hx hb dK0_suggest_18 (by decide) ?_
    replace hm := Option.some.inj hm
    simp only [Prod.mk.injEq] at hm
    obtain ⟨rfl, rfl, rfl, rfl, rfl⟩ := hm
    exact k_reti hx hb hr hlocks hP hD hS dK0_suggest_19
  · replace hm := iff_ hm hc
    refine lv_iload_n hx hb dK0_suggest_11 rfl (lv_at hl 2 rfl) ?_
    obtain ⟨x3, ec4, hm⟩ := bd1_s hm
    have hPc : va_P D vwCl [] H := va_P0
    have hDc : va_D A [] := va_D0
    refine k_calli0 (va_runS (As := [.int v2]) (rest := []) ⟨hx, hb, hml, hown, hts⟩ (kK0_isNode l D cI cZ cB cC H.size v2 x3 ec4) (va_cwS 1 hts (gdS wdt1_185 wdt1_186 wdt1_1 gkK0_isNode) rfl rfl rfl (by decide +kernel) ⟨Nat.le_of_ble_eq_true rfl, Nat.le_of_ble_eq_true rfl⟩) ⟨Pr_blind, fun U hU hW => ⟨rfl, Pr_at hK hN hPc hDc hU hW⟩⟩ rfl rfl hl.1 rfl (lv_room (Nat.le_of_ble_eq_true rfl)) dK0_suggest_12 ⟨Nat.le_of_ble_eq_true rfl, Nat.le_of_ble_eq_true rfl⟩) hP hD hS hA (fun H locs hP hD hS => ?_)
    refine lv_if_ne (tgt := 20) hx hb dK0_suggest_15 (by decide) (fun hc => ?_) (fun hc => ?_)
    · replace hm := iff_ hm hc
      refine lv_aload_n hx hb dK0_suggest_20 rfl (lv_at hl 0 rfl) ?_
      refine va_get (D := D) (ci := 0) (v := .ref rua) (C := RK0) (T := TK0) (N := 10) hx hb hts inK0 hown hK hP 0 rfl rfl 2 (by decide) (hts _ wdt1_145) (fun _ h9 => h9) rfl dK0_suggest_21 ?_
      refine lv_aload_n hx hb dK0_suggest_24 rfl (lv_at hl 0 rfl) ?_
      refine va_get (D := D) (ci := 0) (v := .ref tra) (C := RK0) (T := TK0) (N := 10) hx hb hts inK0 hown hK hP 0 rfl rfl 0 (by decide) (hts _ wdt1_143) (fun _ h9 => h9) rfl dK0_suggest_25 ?_
      refine lv_iload_n hx hb dK0_suggest_28 rfl (lv_at hl 1 rfl) ?_
      refine lv_iload_n hx hb dK0_suggest_29 rfl (lv_at hl 2 rfl) ?_
      obtain ⟨x5, ec6, hm⟩ := bd1_s hm
      have hPc := hP.sub (ws' := (wRT rua rua1 rua2 rua3 rua4 tra tra1 tra2 tra3 cI cZ cB cC run ruki ruta rupr runu trso trob trme trwi)) [9, 10, 11, 12, 13, 1, 2, 3, 4] rfl
      have hDc := hD.sub (ws' := (wRT rua rua1 rua2 rua3 rua4 tra tra1 tra2 tra3 cI cZ cB cC run ruki ruta rupr runu trso trob trme trwi)) [9, 10, 11, 12, 13, 1, 2, 3, 4] (by decide) rfl
      refine k_calli (wr := [(oa, .inr (0, [.ref tra, .ref tia, .ref rua, .ref cha, .ref foa, .ref sba, .int ocs, .int oal, .int olt, .int ols])), (tia, .inr (1, [.ref tia1, .ref tia2, .ref tia3, .int tiso])), (tia1, .inl (cI, 72, .inl tiob)), (tia2, .inl (cI, 12, .inl time)), (tia3, .inl (cI, 12, .inl tiwi)), (cha, .inr (3, [.ref cha1, .ref cha2, .ref cha3, .int chn])), (cha1, .inl (cZ, 12, .inl chpu)), (cha2, .inl (cI, 12, .inl chco)), (cha3, .inl (cI, 12, .inl chwe)), (foa, .inr (4, [.ref foa1, .ref foa2, .int fon])), (foa1, .inl (cI, 30, .inl fose)), (foa2, .inl (cI, 30, .inl fosu))]) (w1 := (wRT rua rua1 rua2 rua3 rua4 tra tra1 tra2 tra3 cI cZ cB cC run ruki ruta rupr runu trso trob trme trwi)) (ws' := (wM oa tra tra1 tra2 tra3 tia tia1 tia2 tia3 rua rua1 rua2 rua3 rua4 cha cha1 cha2 cha3 foa foa1 foa2 sba cI cZ cB cC ocs oal olt ols trso trob trme trwi tiso tiob time tiwi run ruki ruta rupr runu chn chpu chco chwe fon fose fosu)) (va_runV (As := [.ref tra, .int v1, .int v2]) (rest := []) ⟨hx, hb, hml, hown, hts⟩ (kK2_fails l D cI cZ cB cC H.size rua rua1 rua2 rua3 rua4 tra tra1 tra2 tra3 run ruki ruta rupr runu trso trob trme trwi v1 v2 x5 ec6) (cwV 3 hts (gdV wdt2_83 wdt2_84 wdt2_85 wdt1_3 gkK2_fails) rfl rfl rfl (by decide +kernel) ⟨Nat.le_of_ble_eq_true rfl, Nat.le_of_ble_eq_true rfl⟩) ⟨Pr_blind, va_recv hK hPc (ci := 2) (q0 := 0) rfl rfl, fun U hU hW => ⟨rfl, Pr_at hK hN hPc hDc hU hW⟩⟩ rfl rfl hl.1 rfl (lv_room (Nat.le_of_ble_eq_true rfl)) dK0_suggest_30 ⟨Nat.le_of_ble_eq_true rfl, Nat.le_of_ble_eq_true rfl⟩) hP hD hS hA [9, 10, 11, 12, 13, 1, 2, 3, 4] [0, 5, 6, 7, 8, 14, 15, 16, 17, 18, 19, 20] [0, 17, 18, 19, 20, 1, 2, 3, 4, 12, 13, 14, 15, 16, 5, 6, 7, 8, 9, 10, 11] rfl rfl (by decide) (by decide) (by decide) rfl (fun H locs hP hD hS => ?_)
      refine lv_if_ne (tgt := 39) hx hb dK0_suggest_33 (by decide) (fun hc => ?_) (fun hc => ?_)
      · replace hm := iff_ hm hc
        refine lv_aload_n hx hb dK0_suggest_39 rfl (lv_at hl 0 rfl) ?_
        refine va_get (D := D) (ci := 0) (v := .ref cha) (C := RK0) (T := TK0) (N := 10) hx hb hts inK0 hown hK hP 0 rfl rfl 3 (by decide) (hts _ wdt1_146) (fun _ h9 => h9) rfl dK0_suggest_40 ?_
        refine va_getN (D := D) (ci := 3) (v := .int chn) (C := RK3) (T := TK3) (N := 4) hx hb hts inK3 hown hK hP 14 rfl rfl 3 (by decide) (nw hN 5 rfl) (fun _ h9 => h9) rfl dK0_suggest_43 ?_
        refine lv_istore_n (lv' := [(3, .int chn), (0, .ref oa), (1, .int v1), (2, .int v2)]) hx hb dK0_suggest_46 rfl hl (by decide) rfl (fun ls hl => ?_)
        refine lv_aload_n hx hb dK0_suggest_47 rfl (lv_at hl 1 rfl) ?_
        refine va_get (D := D) (ci := 0) (v := .ref rua) (C := RK0) (T := TK0) (N := 10) hx hb hts inK0 hown hK hP 0 rfl rfl 2 (by decide) (hts _ wdt1_145) (fun _ h9 => h9) rfl dK0_suggest_48 ?_
        refine va_getN (D := D) (ci := 2) (v := .ref rua2) (C := RK2) (T := TK2) (N := 5) hx hb hts inK2 hown hK hP 9 rfl rfl 1 (by decide) (nw hN 1 rfl) (fun _ h9 => h9) rfl dK0_suggest_51 ?_
        refine lv_iload_n hx hb dK0_suggest_54 rfl (lv_at hl 2 rfl) ?_
        obtain ⟨x7, ex7, hm⟩ := bd1_s hm
        obtain ⟨hix7, ex7⟩ := rd_s ex7
        refine va_iald hx hb hK hP 11 0 rfl rfl hix7 dK0_suggest_55 ?_
        refine topi ex7 ?_
        refine lv_istore (lv' := [(4, .int x7), (3, .int chn), (0, .ref oa), (1, .int v1), (2, .int v2)]) hx hb dK0_suggest_56 hl (by decide) rfl (fun ls hl => ?_)
        refine lv_aload_n hx hb dK0_suggest_58 rfl (lv_at hl 2 rfl) ?_
        refine va_get (D := D) (ci := 0) (v := .ref tra) (C := RK0) (T := TK0) (N := 10) hx hb hts inK0 hown hK hP 0 rfl rfl 0 (by decide) (hts _ wdt1_143) (fun _ h9 => h9) rfl dK0_suggest_59 ?_
        refine lv_iload_n hx hb dK0_suggest_62 rfl (lv_at hl 4 rfl) ?_
        refine lv_iconst (v := 0) hx hb dK0_suggest_63 (by decide) ?_
        refine lv_iload hx hb dK0_suggest_64 (lv_at hl 0 rfl) ?_
        obtain ⟨x8, ec9, hm⟩ := bd1_s hm
        have hPc := hP.sub (ws' := (wT tra tra1 tra2 tra3 cI cZ cB cC trso trob trme trwi)) [1, 2, 3, 4] rfl
        have hDc := hD.sub (ws' := (wT tra tra1 tra2 tra3 cI cZ cB cC trso trob trme trwi)) [1, 2, 3, 4] (by decide) rfl
        refine k_calli (wr := [(oa, .inr (0, [.ref tra, .ref tia, .ref rua, .ref cha, .ref foa, .ref sba, .int ocs, .int oal, .int olt, .int ols])), (tia, .inr (1, [.ref tia1, .ref tia2, .ref tia3, .int tiso])), (tia1, .inl (cI, 72, .inl tiob)), (tia2, .inl (cI, 12, .inl time)), (tia3, .inl (cI, 12, .inl tiwi)), (rua, .inr (2, [.ref rua1, .ref rua2, .ref rua3, .ref rua4, .int run])), (rua1, .inl (cI, 10, .inl ruki)), (rua2, .inl (cI, 10, .inl ruta)), (rua3, .inl (cI, 10, .inl rupr)), (rua4, .inl (cI, 10, .inl runu)), (cha, .inr (3, [.ref cha1, .ref cha2, .ref cha3, .int chn])), (cha1, .inl (cZ, 12, .inl chpu)), (cha2, .inl (cI, 12, .inl chco)), (cha3, .inl (cI, 12, .inl chwe)), (foa, .inr (4, [.ref foa1, .ref foa2, .int fon])), (foa1, .inl (cI, 30, .inl fose)), (foa2, .inl (cI, 30, .inl fosu))]) (w1 := (wT tra tra1 tra2 tra3 cI cZ cB cC trso trob trme trwi)) (ws' := (wM oa tra tra1 tra2 tra3 tia tia1 tia2 tia3 rua rua1 rua2 rua3 rua4 cha cha1 cha2 cha3 foa foa1 foa2 sba cI cZ cB cC ocs oal olt ols trso trob trme trwi tiso tiob time tiwi run ruki ruta rupr runu chn chpu chco chwe fon fose fosu)) (va_runV (As := [.int v2, .int 0, .int x7]) (rest := []) ⟨hx, hb, hml, hown, hts⟩ (kK1_has l D cI cZ cB cC H.size tra tra1 tra2 tra3 trso trob trme trwi v2 0 x7 x8 ec9) (cwV 3 hts (gdV wdt1_191 wdt1_192 wdt1_193 wdt1_2 gkK1_has) rfl rfl rfl (by decide +kernel) ⟨Nat.le_of_ble_eq_true rfl, Nat.le_of_ble_eq_true rfl⟩) ⟨Pr_blind, va_recv hK hPc (ci := 1) (q0 := 0) rfl rfl, fun U hU hW => ⟨rfl, Pr_at hK hN hPc hDc hU hW⟩⟩ rfl rfl hl.1 rfl (lv_room (Nat.le_of_ble_eq_true rfl)) dK0_suggest_66 ⟨Nat.le_of_ble_eq_true rfl, Nat.le_of_ble_eq_true rfl⟩) hP hD hS hA [1, 2, 3, 4] [0, 5, 6, 7, 8, 9, 10, 11, 12, 13, 14, 15, 16, 17, 18, 19, 20] [0, 17, 18, 19, 20, 1, 2, 3, 4, 5, 6, 7, 8, 9, 10, 11, 12, 13, 14, 15, 16] rfl rfl (by decide) (by decide) (by decide) rfl (fun H locs hP hD hS => ?_)
        have jn81 : ∀ (chnj81 : Int32) (chpuj81 : Nat → Int32) (chcoj81 : Nat → Int32) (chwej81 : Nat → Int32) (H : Heap) (locs : List Loc) (ls : Array Slot), mK0_suggest_J81 trob trme ruki rupr runu chn v1 v2 chnj81 chpuj81 chcoj81 chwej81 = some (r0, chn_r, chpu_r, chco_r, chwe_r) → va_P D vwCl (wM oa tra tra1 tra2 tra3 tia tia1 tia2 tia3 rua rua1 rua2 rua3 rua4 cha cha1 cha2 cha3 foa foa1 foa2 sba cI cZ cB cC ocs oal olt ols trso trob trme trwi tiso tiob time tiwi run ruki ruta rupr runu chnj81 chpuj81 chcoj81 chwej81 fon fose fosu) H → va_D A (wM oa tra tra1 tra2 tra3 tia tia1 tia2 tia3 rua rua1 rua2 rua3 rua4 cha cha1 cha2 cha3 foa foa1 foa2 sba cI cZ cB cC ocs oal olt ols trso trob trme trwi tiso tiob time tiwi run ruki ruta rupr runu chnj81 chpuj81 chcoj81 chwej81 fon fose fosu) → va_S A s.heap H locs → lv_has ls 6 [(0, .ref oa), (1, .int v1), (2, .int v2), (3, .int chn)] → W p l e (headSpec wsK0_suggest rmK0_suggest).room s m ([.ref oa, .int v1, .int v2] : List Value).toArray below meth c H locs 0 0 (MQ below (QI D A r0 (wM oa tra tra1 tra2 tra3 tia tia1 tia2 tia3 rua rua1 rua2 rua3 rua4 cha cha1 cha2 cha3 foa foa1 foa2 sba cI cZ cB cC ocs oal olt ols trso trob trme trwi tiso tiob time tiwi run ruki ruta rupr runu chn_r chpu_r chco_r chwe_r fon fose fosu)) ([.ref oa, .int v1, .int v2] : List Value).toArray s 0 0 A) (F0 m 81 ls []) := by
          intro chnj81 chpuj81 chcoj81 chwej81 H locs ls hm hP hD hS hl
          unfold mK0_suggest_J81 at hm
          refine lv_iconst (v := 0) hx hb dK0_suggest_81 (by decide) ?_
          refine lv_istore (lv' := [(5, .int 0), (0, .ref oa), (1, .int v1), (2, .int v2), (3, .int chn)]) hx hb dK0_suggest_82 hl (by decide) rfl (fun ls hl => ?_)
          have lx84 : ∀ (chnx84 : Int32) (chpux84 : Nat → Int32) (chcox84 : Nat → Int32) (chwex84 : Nat → Int32) (H : Heap) (locs : List Loc) (ls : Array Slot), mK0_suggest_A84 chn chnx84 chpux84 chcox84 chwex84 = some (r0, chn_r, chpu_r, chco_r, chwe_r) → va_P D vwCl (wM oa tra tra1 tra2 tra3 tia tia1 tia2 tia3 rua rua1 rua2 rua3 rua4 cha cha1 cha2 cha3 foa foa1 foa2 sba cI cZ cB cC ocs oal olt ols trso trob trme trwi tiso tiob time tiwi run ruki ruta rupr runu chnx84 chpux84 chcox84 chwex84 fon fose fosu) H → va_D A (wM oa tra tra1 tra2 tra3 tia tia1 tia2 tia3 rua rua1 rua2 rua3 rua4 cha cha1 cha2 cha3 foa foa1 foa2 sba cI cZ cB cC ocs oal olt ols trso trob trme trwi tiso tiob time tiwi run ruki ruta rupr runu chnx84 chpux84 chcox84 chwex84 fon fose fosu) → va_S A s.heap H locs → lv_has ls 6 [(0, .ref oa), (3, .int chn)] → W p l e (headSpec wsK0_suggest rmK0_suggest).room s m ([.ref oa, .int v1, .int v2] : List Value).toArray below meth c H locs 0 0 (MQ below (QI D A r0 (wM oa tra tra1 tra2 tra3 tia tia1 tia2 tia3 rua rua1 rua2 rua3 rua4 cha cha1 cha2 cha3 foa foa1 foa2 sba cI cZ cB cC ocs oal olt ols trso trob trme trwi tiso tiob time tiwi run ruki ruta rupr runu chn_r chpu_r chco_r chwe_r fon fose fosu)) ([.ref oa, .int v1, .int v2] : List Value).toArray s 0 0 A) (F0 m 105 ls []) := by
            intro chnx84 chpux84 chcox84 chwex84 H locs ls hm hP hD hS hl
            unfold mK0_suggest_A84 at hm
            refine lv_aload_n hx hb dK0_suggest_105 rfl (lv_at hl 0 rfl) ?_
            refine va_get (D := D) (ci := 0) (v := .ref cha) (C := RK0) (T := TK0) (N := 10) hx hb hts inK0 hown hK hP 0 rfl rfl 3 (by decide) (hts _ wdt1_146) (fun _ h9 => h9) rfl dK0_suggest_106 ?_
            refine va_getN (D := D) (ci := 3) (v := .int chnx84) (C := RK3) (T := TK3) (N := 4) hx hb hts inK3 hown hK hP 14 rfl rfl 3 (by decide) (nw hN 5 rfl) (fun _ h9 => h9) rfl dK0_suggest_109 ?_
            refine lv_iload_n hx hb dK0_suggest_112 rfl (lv_at hl 1 rfl) ?_
            refine lv_isub hx hb dK0_suggest_113 ?_
            replace hm := Option.some.inj hm
            simp only [Prod.mk.injEq] at hm
            obtain ⟨rfl, rfl, rfl, rfl, rfl⟩ := hm
            exact k_reti hx hb hr hlocks hP hD hS dK0_suggest_114
          have lp84 : ∀ (n84 : Nat) (i5l84 : Int32) (chnl84 : Int32) (chpul84 : Nat → Int32) (chcol84 : Nat → Int32) (chwel84 : Nat → Int32) (H : Heap) (locs : List Loc) (ls : Array Slot), mK0_suggest_L84 trob trme ruki rupr runu v1 v2 (mK0_suggest_A84 chn) n84 i5l84 chnl84 chpul84 chcol84 chwel84 = some (r0, chn_r, chpu_r, chco_r, chwe_r) → va_P D vwCl (wM oa tra tra1 tra2 tra3 tia tia1 tia2 tia3 rua rua1 rua2 rua3 rua4 cha cha1 cha2 cha3 foa foa1 foa2 sba cI cZ cB cC ocs oal olt ols trso trob trme trwi tiso tiob time tiwi run ruki ruta rupr runu chnl84 chpul84 chcol84 chwel84 fon fose fosu) H → va_D A (wM oa tra tra1 tra2 tra3 tia tia1 tia2 tia3 rua rua1 rua2 rua3 rua4 cha cha1 cha2 cha3 foa foa1 foa2 sba cI cZ cB cC ocs oal olt ols trso trob trme trwi tiso tiob time tiwi run ruki ruta rupr runu chnl84 chpul84 chcol84 chwel84 fon fose fosu) → va_S A s.heap H locs → lv_has ls 6 [(5, .int i5l84), (0, .ref oa), (1, .int v1), (2, .int v2), (3, .int chn)] → W p l e (headSpec wsK0_suggest rmK0_suggest).room s m ([.ref oa, .int v1, .int v2] : List Value).toArray below meth c H locs 0 0 (MQ below (QI D A r0 (wM oa tra tra1 tra2 tra3 tia tia1 tia2 tia3 rua rua1 rua2 rua3 rua4 cha cha1 cha2 cha3 foa foa1 foa2 sba cI cZ cB cC ocs oal olt ols trso trob trme trwi tiso tiob time tiwi run ruki ruta rupr runu chn_r chpu_r chco_r chwe_r fon fose fosu)) ([.ref oa, .int v1, .int v2] : List Value).toArray s 0 0 A) (F0 m 84 ls []) := by
            intro n84
            induction n84 with
            | zero => intro i5l84 chnl84 chpul84 chcol84 chwel84 H locs ls hm; exact nomatch (show none = _ from hm)
            | succ n84 ih84 =>
              intro i5l84 chnl84 chpul84 chcol84 chwel84 H locs ls hm hP hD hS hl
              replace hm : mK0_suggest_B84 trob trme ruki rupr runu v1 v2 (mK0_suggest_A84 chn) (mK0_suggest_L84 trob trme ruki rupr runu v1 v2 (mK0_suggest_A84 chn) n84) i5l84 chnl84 chpul84 chcol84 chwel84 = some (r0, chn_r, chpu_r, chco_r, chwe_r) := hm
              unfold mK0_suggest_B84 at hm
              refine lv_iload hx hb dK0_suggest_84 (lv_at hl 0 rfl) ?_
              refine lv_bipush (v := 12) hx hb dK0_suggest_86 (by decide) ?_
              refine lv_icmp_ge (tgt := 105) hx hb dK0_suggest_88 (by decide) (fun hc => ?_) (fun hc => ?_)
              · replace hm := ift hm hc
                exact lx84 chnl84 chpul84 chcol84 chwel84 _ _ _ hm hP hD hS (lv_sub hl [1, 4] rfl)
              · replace hm := iff_ hm hc
                refine lv_aload_n hx hb dK0_suggest_91 rfl (lv_at hl 1 rfl) ?_
                refine lv_iload_n hx hb dK0_suggest_92 rfl (lv_at hl 2 rfl) ?_
                refine lv_iload_n hx hb dK0_suggest_93 rfl (lv_at hl 3 rfl) ?_
                refine lv_iload hx hb dK0_suggest_94 (lv_at hl 0 rfl) ?_
                obtain ⟨x10, x11, x12, x13, ec14, hm⟩ := bd4_s hm
                have hPc := hP.sub (ws' := (wM oa tra tra1 tra2 tra3 tia tia1 tia2 tia3 rua rua1 rua2 rua3 rua4 cha cha1 cha2 cha3 foa foa1 foa2 sba cI cZ cB cC ocs oal olt ols trso trob trme trwi tiso tiob time tiwi run ruki ruta rupr runu chnl84 chpul84 chcol84 chwel84 fon fose fosu)) [0, 1, 2, 3, 4, 5, 6, 7, 8, 9, 10, 11, 12, 13, 14, 15, 16, 17, 18, 19, 20] rfl
                have hDc := hD.sub (ws' := (wM oa tra tra1 tra2 tra3 tia tia1 tia2 tia3 rua rua1 rua2 rua3 rua4 cha cha1 cha2 cha3 foa foa1 foa2 sba cI cZ cB cC ocs oal olt ols trso trob trme trwi tiso tiob time tiwi run ruki ruta rupr runu chnl84 chpul84 chcol84 chwel84 fon fose fosu)) [0, 1, 2, 3, 4, 5, 6, 7, 8, 9, 10, 11, 12, 13, 14, 15, 16, 17, 18, 19, 20] (by decide) rfl
                refine k_callv (wr := []) (w1 := (wM oa tra tra1 tra2 tra3 tia tia1 tia2 tia3 rua rua1 rua2 rua3 rua4 cha cha1 cha2 cha3 foa foa1 foa2 sba cI cZ cB cC ocs oal olt ols trso trob trme trwi tiso tiob time tiwi run ruki ruta rupr runu x10 x11 x12 x13 fon fose fosu)) (ws' := (wM oa tra tra1 tra2 tra3 tia tia1 tia2 tia3 rua rua1 rua2 rua3 rua4 cha cha1 cha2 cha3 foa foa1 foa2 sba cI cZ cB cC ocs oal olt ols trso trob trme trwi tiso tiob time tiwi run ruki ruta rupr runu x10 x11 x12 x13 fon fose fosu)) (va_runV (As := [.int v1, .int v2, .int i5l84]) (rest := []) ⟨hx, hb, hml, hown, hts⟩ (kK0_offerAbout l D cI cZ cB cC H.size oa tra tra1 tra2 tra3 tia tia1 tia2 tia3 rua rua1 rua2 rua3 rua4 cha cha1 cha2 cha3 foa foa1 foa2 sba ocs oal olt ols trso trob trme trwi tiso tiob time tiwi run ruki ruta rupr runu chnl84 chpul84 chcol84 chwel84 fon fose fosu v1 v2 i5l84 x10 x11 x12 x13 ec14) (cwV 3 hts (gdV wdt2_92 wdt2_94 wds1_7 wdt1_1 gkK0_offerAbout) rfl rfl rfl (by decide +kernel) ⟨Nat.le_of_ble_eq_true rfl, Nat.le_of_ble_eq_true rfl⟩) ⟨Pr_blind, va_recv hK hPc (ci := 0) (q0 := 0) rfl rfl, fun U hU hW => ⟨rfl, Pr_at hK hN hPc hDc hU hW⟩⟩ rfl rfl hl.1 rfl (lv_room (Nat.le_of_ble_eq_true rfl)) dK0_suggest_96 ⟨Nat.le_of_ble_eq_true rfl, Nat.le_of_ble_eq_true rfl⟩) hP hD hS hA [0, 1, 2, 3, 4, 5, 6, 7, 8, 9, 10, 11, 12, 13, 14, 15, 16, 17, 18, 19, 20] [] [0, 1, 2, 3, 4, 5, 6, 7, 8, 9, 10, 11, 12, 13, 14, 15, 16, 17, 18, 19, 20] rfl rfl (by decide) (by decide) (by decide) rfl (fun H locs hP hD hS => ?_)
                obtain ⟨x15, ex15, hm⟩ := bd1_s hm
                refine lv_iinc (v := x15) (lv' := [(5, .int x15), (0, .ref oa), (1, .int v1), (2, .int v2), (3, .int chn)]) hx hb dK0_suggest_99 hl (k := 0) rfl (by rw [← Option.some.inj ex15]; rfl) (by decide) rfl (fun ls hl => ?_)
                refine lv_goto (tgt := 84) hx hb dK0_suggest_102 (by decide) ?_
                exact ih84 x15 x10 x11 x12 x13 _ _ _ hm hP hD hS (lv_sub hl [0, 1, 2, 3, 4] rfl)
          exact lp84 5000 0 chnj81 chpuj81 chcoj81 chwej81 _ _ _ hm hP hD hS (lv_sub hl [0, 1, 2, 3, 4] rfl)
        refine lv_if_eq (tgt := 81) hx hb dK0_suggest_69 (by decide) (fun hc => ?_) (fun hc => ?_)
        · replace hm := ift hm hc
          exact jn81 chn chpu chco chwe _ _ _ hm hP hD hS (lv_sub hl [2, 3, 4, 1] rfl)
        · replace hm := iff_ hm hc
          refine lv_aload_n hx hb dK0_suggest_72 rfl (lv_at hl 2 rfl) ?_
          refine lv_iconst (v := 0) hx hb dK0_suggest_73 (by decide) ?_
          refine lv_iload_n hx hb dK0_suggest_74 rfl (lv_at hl 4 rfl) ?_
          refine lv_iconst (v := 0) hx hb dK0_suggest_75 (by decide) ?_
          refine lv_iload hx hb dK0_suggest_76 (lv_at hl 0 rfl) ?_
          obtain ⟨x16, x17, x18, x19, ec20, hm⟩ := bd4_s hm
          have hPc := hP.sub (ws' := (wM oa tra tra1 tra2 tra3 tia tia1 tia2 tia3 rua rua1 rua2 rua3 rua4 cha cha1 cha2 cha3 foa foa1 foa2 sba cI cZ cB cC ocs oal olt ols trso trob trme trwi tiso tiob time tiwi run ruki ruta rupr runu chn chpu chco chwe fon fose fosu)) [0, 1, 2, 3, 4, 5, 6, 7, 8, 9, 10, 11, 12, 13, 14, 15, 16, 17, 18, 19, 20] rfl
          have hDc := hD.sub (ws' := (wM oa tra tra1 tra2 tra3 tia tia1 tia2 tia3 rua rua1 rua2 rua3 rua4 cha cha1 cha2 cha3 foa foa1 foa2 sba cI cZ cB cC ocs oal olt ols trso trob trme trwi tiso tiob time tiwi run ruki ruta rupr runu chn chpu chco chwe fon fose fosu)) [0, 1, 2, 3, 4, 5, 6, 7, 8, 9, 10, 11, 12, 13, 14, 15, 16, 17, 18, 19, 20] (by decide) rfl
          refine k_callv (wr := []) (w1 := (wM oa tra tra1 tra2 tra3 tia tia1 tia2 tia3 rua rua1 rua2 rua3 rua4 cha cha1 cha2 cha3 foa foa1 foa2 sba cI cZ cB cC ocs oal olt ols trso trob trme trwi tiso tiob time tiwi run ruki ruta rupr runu x16 x17 x18 x19 fon fose fosu)) (ws' := (wM oa tra tra1 tra2 tra3 tia tia1 tia2 tia3 rua rua1 rua2 rua3 rua4 cha cha1 cha2 cha3 foa foa1 foa2 sba cI cZ cB cC ocs oal olt ols trso trob trme trwi tiso tiob time tiwi run ruki ruta rupr runu x16 x17 x18 x19 fon fose fosu)) (va_runV (As := [.int 0, .int v2, .int 0, .int x7]) (rest := []) ⟨hx, hb, hml, hown, hts⟩ (kK0_offer l D cI cZ cB cC H.size oa tra tra1 tra2 tra3 tia tia1 tia2 tia3 rua rua1 rua2 rua3 rua4 cha cha1 cha2 cha3 foa foa1 foa2 sba ocs oal olt ols trso trob trme trwi tiso tiob time tiwi run ruki ruta rupr runu chn chpu chco chwe fon fose fosu 0 v2 0 x7 x16 x17 x18 x19 ec20) (cwV 4 hts (gdV wdt2_88 wdt2_90 wds1_6 wdt1_1 gkK0_offer) rfl rfl rfl (by decide +kernel) ⟨Nat.le_of_ble_eq_true rfl, Nat.le_of_ble_eq_true rfl⟩) ⟨Pr_blind, va_recv hK hPc (ci := 0) (q0 := 0) rfl rfl, fun U hU hW => ⟨rfl, Pr_at hK hN hPc hDc hU hW⟩⟩ rfl rfl hl.1 rfl (lv_room (Nat.le_of_ble_eq_true rfl)) dK0_suggest_78 ⟨Nat.le_of_ble_eq_true rfl, Nat.le_of_ble_eq_true rfl⟩) hP hD hS hA [0, 1, 2, 3, 4, 5, 6, 7, 8, 9, 10, 11, 12, 13, 14, 15, 16, 17, 18, 19, 20] [] [0, 1, 2, 3, 4, 5, 6, 7, 8, 9, 10, 11, 12, 13, 14, 15, 16, 17, 18, 19, 20] rfl rfl (by decide) (by decide) (by decide) rfl (fun H locs hP hD hS => ?_)
          exact jn81 x16 x17 x18 x19 _ _ _ hm hP hD hS (lv_sub hl [2, 3, 4, 1] rfl)
      · replace hm := ift hm hc
        refine lv_bipush (v := (-2)) hx hb dK0_suggest_36 (by decide) ?_
        replace hm := Option.some.inj hm
        simp only [Prod.mk.injEq] at hm
        obtain ⟨rfl, rfl, rfl, rfl, rfl⟩ := hm
        exact k_reti hx hb hr hlocks hP hD hS dK0_suggest_38
    · replace hm := ift hm hc
      refine lv_iconst (v := (-1)) hx hb dK0_suggest_18 (by decide) ?_
      replace hm := Option.some.inj hm
      simp only [Prod.mk.injEq] at hm
      obtain ⟨rfl, rfl, rfl, rfl, rfl⟩ := hm
      exact k_reti hx hb hr hlocks hP hD hS dK0_suggest_19
def mK3_forget (cn : Int32) : Option (Int32) :=
  some 0
abbrev rmK3_forget : Room := { frames := 0, cells := 0, slots := 0, locals := 0 }
set_option maxHeartbeats 4000000 in
set_option maxRecDepth 100000 in
theorem kK3_forget (l : Launch) (D : va_G) (cI cZ cB cC : ClassId) (sz : Nat) (ca : Nat) (ca1 : Nat) (ca2 : Nat) (ca3 : Nat) (cn : Int32) (cpu : Nat → Int32) (cco : Nat → Int32) (cwe : Nat → Int32) (cn_r : Int32) (hm : mK3_forget cn = some cn_r) : Met l yK3_forget wsK3_forget rmK3_forget (va_Pc [.ref ca] (Pr D (tyL cI cZ cB cC) sz (wC ca ca1 ca2 ca3 cI cZ cB cC cn cpu cco cwe))) (QV D (va_A (wC ca ca1 ca2 ca3 cI cZ cB cC cn cpu cco cwe) sz) (wC ca ca1 ca2 ca3 cI cZ cB cC cn_r cpu cco cwe)) 0 0 (va_A (wC ca ca1 ca2 ca3 cI cZ cB cC cn cpu cco cwe) sz) := by
  refine Met.ofW (cc := cK3_forget) (maxL := 1) (ret := none) (by decide) rfl ?_
  intro p e s m args below meth c s₁ B hml hv
  obtain ⟨rfl, hsz, hP, hK, hD0, hN⟩ := hv
  have hx := B.exec
  have hb := B.bytes
  have hr := B.returns
  have hts := htsA (atoms_spec (ws := wsK3_forget) B.pre)
  have hown : s.vm.findClass RK3 = some m.cls := findClass_of_methodNamed B.named
  have hlocks := B.notSynchronized
  subst hsz
  have hD := hD0.self (sz := s.heap.size)
  generalize hAe : va_A (wC ca ca1 ca2 ca3 cI cZ cB cC cn cpu cco cwe) s.heap.size = A at hD ⊢
  have hA : ∀ q : Nat, s.heap.size ≤ q → A q := fun q h => by rw [← hAe]; exact Or.inr h
  refine kstart (A := A) hP (fun H hP hS => ?_)
  have hl := lv_entry ([.ref ca]) (n := 1) (Nat.le_of_ble_eq_true rfl)
  rw [lg_entry_eq]
  generalize (lg_sl ([.ref ca]) ++ List.replicate (1 - (lg_sl ([.ref ca])).length) Slot.unset).toArray = ls at hl ⊢
  have hl : lv_has ls 1 [(0, .ref ca)] := hl
  unfold mK3_forget at hm
  refine lv_aload_n hx hb dK3_forget_0 rfl (lv_at hl 0 rfl) ?_
  refine lv_iconst (v := 0) hx hb dK3_forget_1 (by decide) ?_
  refine va_put (D := D) (ci := 3) (v := .int 0) (ty := .int) (C := RK3) (T := TK3) (N := 4) hx hb hts inK3 tyK3 tyK3_ok nmK3 hown hK hP hD hS 0 rfl rfl 3 (by decide) (hts _ wdt1_82) (fun _ h9 => h9) rfl (by decide +kernel) rfl rfl (Nat.le_of_ble_eq_true rfl) dK3_forget_2 (fun H locs hP hD hS => ?_)
  have hP : va_P D vwCl (wC ca ca1 ca2 ca3 cI cZ cB cC 0 cpu cco cwe) H := hP
  have hD : va_D A (wC ca ca1 ca2 ca3 cI cZ cB cC 0 cpu cco cwe) := hD
  replace hm := Option.some.inj hm
  subst hm
  exact k_retv hx hb hr hlocks hP hD hS dK3_forget_5
def mK4_forget (fn : Int32) : Option (Int32) :=
  some 0
abbrev rmK4_forget : Room := { frames := 0, cells := 0, slots := 0, locals := 0 }
set_option maxHeartbeats 4000000 in
set_option maxRecDepth 100000 in
theorem kK4_forget (l : Launch) (D : va_G) (cI cZ cB cC : ClassId) (sz : Nat) (fa : Nat) (fa1 : Nat) (fa2 : Nat) (fn : Int32) (fse : Nat → Int32) (fsu : Nat → Int32) (fn_r : Int32) (hm : mK4_forget fn = some fn_r) : Met l yK4_forget wsK4_forget rmK4_forget (va_Pc [.ref fa] (Pr D (tyL cI cZ cB cC) sz (wF fa fa1 fa2 cI cZ cB cC fn fse fsu))) (QV D (va_A (wF fa fa1 fa2 cI cZ cB cC fn fse fsu) sz) (wF fa fa1 fa2 cI cZ cB cC fn_r fse fsu)) 0 0 (va_A (wF fa fa1 fa2 cI cZ cB cC fn fse fsu) sz) := by
  refine Met.ofW (cc := cK4_forget) (maxL := 1) (ret := none) (by decide) rfl ?_
  intro p e s m args below meth c s₁ B hml hv
  obtain ⟨rfl, hsz, hP, hK, hD0, hN⟩ := hv
  have hx := B.exec
  have hb := B.bytes
  have hr := B.returns
  have hts := htsA (atoms_spec (ws := wsK4_forget) B.pre)
  have hown : s.vm.findClass RK4 = some m.cls := findClass_of_methodNamed B.named
  have hlocks := B.notSynchronized
  subst hsz
  have hD := hD0.self (sz := s.heap.size)
  generalize hAe : va_A (wF fa fa1 fa2 cI cZ cB cC fn fse fsu) s.heap.size = A at hD ⊢
  have hA : ∀ q : Nat, s.heap.size ≤ q → A q := fun q h => by rw [← hAe]; exact Or.inr h
  refine kstart (A := A) hP (fun H hP hS => ?_)
  have hl := lv_entry ([.ref fa]) (n := 1) (Nat.le_of_ble_eq_true rfl)
  rw [lg_entry_eq]
  generalize (lg_sl ([.ref fa]) ++ List.replicate (1 - (lg_sl ([.ref fa])).length) Slot.unset).toArray = ls at hl ⊢
  have hl : lv_has ls 1 [(0, .ref fa)] := hl
  unfold mK4_forget at hm
  refine lv_aload_n hx hb dK4_forget_0 rfl (lv_at hl 0 rfl) ?_
  refine lv_iconst (v := 0) hx hb dK4_forget_1 (by decide) ?_
  refine va_put (D := D) (ci := 4) (v := .int 0) (ty := .int) (C := RK4) (T := TK4) (N := 3) hx hb hts inK4 tyK4 tyK4_ok nmK4 hown hK hP hD hS 0 rfl rfl 2 (by decide) (hts _ wdt1_102) (fun _ h9 => h9) rfl (by decide +kernel) rfl rfl (Nat.le_of_ble_eq_true rfl) dK4_forget_2 (fun H locs hP hD hS => ?_)
  have hP : va_P D vwCl (wF fa fa1 fa2 cI cZ cB cC 0 fse fsu) H := hP
  have hD : va_D A (wF fa fa1 fa2 cI cZ cB cC 0 fse fsu) := hD
  replace hm := Option.some.inj hm
  subst hm
  exact k_retv hx hb hr hlocks hP hD hS dK4_forget_5
def mK0_clear (ocs : Int32) (chn : Int32) (fon : Int32) : Option (Int32 × Int32 × Int32 × Int32) :=
  bd1 (mK3_forget chn) fun x1 => bd1 (mK4_forget fon) fun x3 => some (chn, 0, x1, x3)
abbrev rmK0_clear : Room := { frames := 1, cells := 0, slots := 0, locals := 20 }
set_option maxHeartbeats 4000000 in
set_option maxRecDepth 100000 in
theorem kK0_clear (l : Launch) (D : va_G) (cI cZ cB cC : ClassId) (sz : Nat) (oa : Nat) (tra : Nat) (tra1 : Nat) (tra2 : Nat) (tra3 : Nat) (tia : Nat) (tia1 : Nat) (tia2 : Nat) (tia3 : Nat) (rua : Nat) (rua1 : Nat) (rua2 : Nat) (rua3 : Nat) (rua4 : Nat) (cha : Nat) (cha1 : Nat) (cha2 : Nat) (cha3 : Nat) (foa : Nat) (foa1 : Nat) (foa2 : Nat) (sba : Nat) (ocs : Int32) (oal : Int32) (olt : Int32) (ols : Int32) (trso : Int32) (trob : Nat → Int32) (trme : Nat → Int32) (trwi : Nat → Int32) (tiso : Int32) (tiob : Nat → Int32) (time : Nat → Int32) (tiwi : Nat → Int32) (run : Int32) (ruki : Nat → Int32) (ruta : Nat → Int32) (rupr : Nat → Int32) (runu : Nat → Int32) (chn : Int32) (chpu : Nat → Int32) (chco : Nat → Int32) (chwe : Nat → Int32) (fon : Int32) (fose : Nat → Int32) (fosu : Nat → Int32) (r0 : Int32) (ocs_r : Int32) (chn_r : Int32) (fon_r : Int32) (hm : mK0_clear ocs chn fon = some (r0, ocs_r, chn_r, fon_r)) : Met l yK0_clear wsK0_clear rmK0_clear (va_Pc [.ref oa] (Pr D (tyL cI cZ cB cC) sz (wM oa tra tra1 tra2 tra3 tia tia1 tia2 tia3 rua rua1 rua2 rua3 rua4 cha cha1 cha2 cha3 foa foa1 foa2 sba cI cZ cB cC ocs oal olt ols trso trob trme trwi tiso tiob time tiwi run ruki ruta rupr runu chn chpu chco chwe fon fose fosu))) (QI D (va_A (wM oa tra tra1 tra2 tra3 tia tia1 tia2 tia3 rua rua1 rua2 rua3 rua4 cha cha1 cha2 cha3 foa foa1 foa2 sba cI cZ cB cC ocs oal olt ols trso trob trme trwi tiso tiob time tiwi run ruki ruta rupr runu chn chpu chco chwe fon fose fosu) sz) r0 (wM oa tra tra1 tra2 tra3 tia tia1 tia2 tia3 rua rua1 rua2 rua3 rua4 cha cha1 cha2 cha3 foa foa1 foa2 sba cI cZ cB cC ocs_r oal olt ols trso trob trme trwi tiso tiob time tiwi run ruki ruta rupr runu chn_r chpu chco chwe fon_r fose fosu)) 0 0 (va_A (wM oa tra tra1 tra2 tra3 tia tia1 tia2 tia3 rua rua1 rua2 rua3 rua4 cha cha1 cha2 cha3 foa foa1 foa2 sba cI cZ cB cC ocs oal olt ols trso trob trme trwi tiso tiob time tiwi run ruki ruta rupr runu chn chpu chco chwe fon fose fosu) sz) := by
  refine Met.ofW (cc := cK0_clear) (maxL := 2) (ret := (some .int)) (by decide) rfl ?_
  intro p e s m args below meth c s₁ B hml hv
  obtain ⟨rfl, hsz, hP, hK, hD0, hN⟩ := hv
  have hx := B.exec
  have hb := B.bytes
  have hr := B.returns
  have hts := htsA (atoms_spec (ws := wsK0_clear) B.pre)
  have hown : s.vm.findClass RK0 = some m.cls := findClass_of_methodNamed B.named
  have hlocks := B.notSynchronized
  subst hsz
  have hD := hD0.self (sz := s.heap.size)
  generalize hAe : va_A (wM oa tra tra1 tra2 tra3 tia tia1 tia2 tia3 rua rua1 rua2 rua3 rua4 cha cha1 cha2 cha3 foa foa1 foa2 sba cI cZ cB cC ocs oal olt ols trso trob trme trwi tiso tiob time tiwi run ruki ruta rupr runu chn chpu chco chwe fon fose fosu) s.heap.size = A at hD ⊢
  have hA : ∀ q : Nat, s.heap.size ≤ q → A q := fun q h => by rw [← hAe]; exact Or.inr h
  refine kstart (A := A) hP (fun H hP hS => ?_)
  have hl := lv_entry ([.ref oa]) (n := 2) (Nat.le_of_ble_eq_true rfl)
  rw [lg_entry_eq]
  generalize (lg_sl ([.ref oa]) ++ List.replicate (2 - (lg_sl ([.ref oa])).length) Slot.unset).toArray = ls at hl ⊢
  have hl : lv_has ls 2 [(0, .ref oa)] := hl
  unfold mK0_clear at hm
  refine lv_aload_n hx hb dK0_clear_0 rfl (lv_at hl 0 rfl) ?_
  refine va_get (D := D) (ci := 0) (v := .ref cha) (C := RK0) (T := TK0) (N := 10) hx hb hts inK0 hown hK hP 0 rfl rfl 3 (by decide) (hts _ wdt1_146) (fun _ h9 => h9) rfl dK0_clear_1 ?_
  refine va_getN (D := D) (ci := 3) (v := .int chn) (C := RK3) (T := TK3) (N := 4) hx hb hts inK3 hown hK hP 14 rfl rfl 3 (by decide) (nw hN 5 rfl) (fun _ h9 => h9) rfl dK0_clear_4 ?_
  refine lv_istore_n (lv' := [(1, .int chn), (0, .ref oa)]) hx hb dK0_clear_7 rfl hl (by decide) rfl (fun ls hl => ?_)
  refine lv_aload_n hx hb dK0_clear_8 rfl (lv_at hl 1 rfl) ?_
  refine va_get (D := D) (ci := 0) (v := .ref cha) (C := RK0) (T := TK0) (N := 10) hx hb hts inK0 hown hK hP 0 rfl rfl 3 (by decide) (hts _ wdt1_146) (fun _ h9 => h9) rfl dK0_clear_9 ?_
  obtain ⟨x1, ec2, hm⟩ := bd1_s hm
  have hPc := hP.sub (ws' := (wC cha cha1 cha2 cha3 cI cZ cB cC chn chpu chco chwe)) [14, 15, 16, 17] rfl
  have hDc := hD.sub (ws' := (wC cha cha1 cha2 cha3 cI cZ cB cC chn chpu chco chwe)) [14, 15, 16, 17] (by decide) rfl
  refine k_callv (wr := [(oa, .inr (0, [.ref tra, .ref tia, .ref rua, .ref cha, .ref foa, .ref sba, .int ocs, .int oal, .int olt, .int ols])), (tra, .inr (1, [.ref tra1, .ref tra2, .ref tra3, .int trso])), (tra1, .inl (cI, 72, .inl trob)), (tra2, .inl (cI, 12, .inl trme)), (tra3, .inl (cI, 12, .inl trwi)), (tia, .inr (1, [.ref tia1, .ref tia2, .ref tia3, .int tiso])), (tia1, .inl (cI, 72, .inl tiob)), (tia2, .inl (cI, 12, .inl time)), (tia3, .inl (cI, 12, .inl tiwi)), (rua, .inr (2, [.ref rua1, .ref rua2, .ref rua3, .ref rua4, .int run])), (rua1, .inl (cI, 10, .inl ruki)), (rua2, .inl (cI, 10, .inl ruta)), (rua3, .inl (cI, 10, .inl rupr)), (rua4, .inl (cI, 10, .inl runu)), (foa, .inr (4, [.ref foa1, .ref foa2, .int fon])), (foa1, .inl (cI, 30, .inl fose)), (foa2, .inl (cI, 30, .inl fosu))]) (w1 := (wC cha cha1 cha2 cha3 cI cZ cB cC x1 chpu chco chwe)) (ws' := (wM oa tra tra1 tra2 tra3 tia tia1 tia2 tia3 rua rua1 rua2 rua3 rua4 cha cha1 cha2 cha3 foa foa1 foa2 sba cI cZ cB cC ocs oal olt ols trso trob trme trwi tiso tiob time tiwi run ruki ruta rupr runu x1 chpu chco chwe fon fose fosu)) (va_runV (As := []) (rest := []) ⟨hx, hb, hml, hown, hts⟩ (kK3_forget l D cI cZ cB cC H.size cha cha1 cha2 cha3 chn chpu chco chwe x1 ec2) (cwV 0 hts (gdV wdt2_100 wdt2_101 wdt2_102 wdt1_4 gkK3_forget) rfl rfl rfl (by decide +kernel) ⟨Nat.le_of_ble_eq_true rfl, Nat.le_of_ble_eq_true rfl⟩) ⟨Pr_blind, va_recv hK hPc (ci := 3) (q0 := 0) rfl rfl, fun U hU hW => ⟨rfl, Pr_at hK hN hPc hDc hU hW⟩⟩ rfl rfl hl.1 rfl (lv_room (Nat.le_of_ble_eq_true rfl)) dK0_clear_12 ⟨Nat.le_of_ble_eq_true rfl, Nat.le_of_ble_eq_true rfl⟩) hP hD hS hA [14, 15, 16, 17] [0, 1, 2, 3, 4, 5, 6, 7, 8, 9, 10, 11, 12, 13, 18, 19, 20] [0, 1, 2, 3, 4, 5, 6, 7, 8, 9, 10, 11, 12, 13, 17, 18, 19, 20, 14, 15, 16] rfl rfl (by decide) (by decide) (by decide) rfl (fun H locs hP hD hS => ?_)
  refine lv_aload_n hx hb dK0_clear_15 rfl (lv_at hl 1 rfl) ?_
  refine va_get (D := D) (ci := 0) (v := .ref foa) (C := RK0) (T := TK0) (N := 10) hx hb hts inK0 hown hK hP 0 rfl rfl 4 (by decide) (hts _ wdt1_147) (fun _ h9 => h9) rfl dK0_clear_16 ?_
  obtain ⟨x3, ec4, hm⟩ := bd1_s hm
  have hPc := hP.sub (ws' := (wF foa foa1 foa2 cI cZ cB cC fon fose fosu)) [18, 19, 20] rfl
  have hDc := hD.sub (ws' := (wF foa foa1 foa2 cI cZ cB cC fon fose fosu)) [18, 19, 20] (by decide) rfl
  refine k_callv (wr := [(oa, .inr (0, [.ref tra, .ref tia, .ref rua, .ref cha, .ref foa, .ref sba, .int ocs, .int oal, .int olt, .int ols])), (tra, .inr (1, [.ref tra1, .ref tra2, .ref tra3, .int trso])), (tra1, .inl (cI, 72, .inl trob)), (tra2, .inl (cI, 12, .inl trme)), (tra3, .inl (cI, 12, .inl trwi)), (tia, .inr (1, [.ref tia1, .ref tia2, .ref tia3, .int tiso])), (tia1, .inl (cI, 72, .inl tiob)), (tia2, .inl (cI, 12, .inl time)), (tia3, .inl (cI, 12, .inl tiwi)), (rua, .inr (2, [.ref rua1, .ref rua2, .ref rua3, .ref rua4, .int run])), (rua1, .inl (cI, 10, .inl ruki)), (rua2, .inl (cI, 10, .inl ruta)), (rua3, .inl (cI, 10, .inl rupr)), (rua4, .inl (cI, 10, .inl runu)), (cha, .inr (3, [.ref cha1, .ref cha2, .ref cha3, .int x1])), (cha1, .inl (cZ, 12, .inl chpu)), (cha2, .inl (cI, 12, .inl chco)), (cha3, .inl (cI, 12, .inl chwe))]) (w1 := (wF foa foa1 foa2 cI cZ cB cC x3 fose fosu)) (ws' := (wM oa tra tra1 tra2 tra3 tia tia1 tia2 tia3 rua rua1 rua2 rua3 rua4 cha cha1 cha2 cha3 foa foa1 foa2 sba cI cZ cB cC ocs oal olt ols trso trob trme trwi tiso tiob time tiwi run ruki ruta rupr runu x1 chpu chco chwe x3 fose fosu)) (va_runV (As := []) (rest := []) ⟨hx, hb, hml, hown, hts⟩ (kK4_forget l D cI cZ cB cC H.size foa foa1 foa2 fon fose fosu x3 ec4) (cwV 0 hts (gdV wdt2_104 wdt2_105 wdt2_106 wdt1_5 gkK4_forget) rfl rfl rfl (by decide +kernel) ⟨Nat.le_of_ble_eq_true rfl, Nat.le_of_ble_eq_true rfl⟩) ⟨Pr_blind, va_recv hK hPc (ci := 4) (q0 := 0) rfl rfl, fun U hU hW => ⟨rfl, Pr_at hK hN hPc hDc hU hW⟩⟩ rfl rfl hl.1 rfl (lv_room (Nat.le_of_ble_eq_true rfl)) dK0_clear_19 ⟨Nat.le_of_ble_eq_true rfl, Nat.le_of_ble_eq_true rfl⟩) hP hD hS hA [18, 19, 20] [0, 1, 2, 3, 4, 5, 6, 7, 8, 9, 10, 11, 12, 13, 14, 15, 16, 17] [0, 1, 2, 3, 4, 5, 6, 7, 8, 9, 10, 11, 12, 13, 14, 15, 16, 17, 18, 19, 20] rfl rfl (by decide) (by decide) (by decide) rfl (fun H locs hP hD hS => ?_)
  refine lv_aload_n hx hb dK0_clear_22 rfl (lv_at hl 1 rfl) ?_
  refine lv_iconst (v := 0) hx hb dK0_clear_23 (by decide) ?_
  refine va_put (D := D) (ci := 0) (v := .int 0) (ty := .int) (C := RK0) (T := TK0) (N := 10) hx hb hts inK0 tyK0 tyK0_ok nmK0 hown hK hP hD hS 0 rfl rfl 6 (by decide) (hts _ wdt1_149) (fun _ h9 => h9) rfl (by decide +kernel) rfl rfl (Nat.le_of_ble_eq_true rfl) dK0_clear_24 (fun H locs hP hD hS => ?_)
  have hP : va_P D vwCl (wM oa tra tra1 tra2 tra3 tia tia1 tia2 tia3 rua rua1 rua2 rua3 rua4 cha cha1 cha2 cha3 foa foa1 foa2 sba cI cZ cB cC 0 oal olt ols trso trob trme trwi tiso tiob time tiwi run ruki ruta rupr runu x1 chpu chco chwe x3 fose fosu) H := hP
  have hD : va_D A (wM oa tra tra1 tra2 tra3 tia tia1 tia2 tia3 rua rua1 rua2 rua3 rua4 cha cha1 cha2 cha3 foa foa1 foa2 sba cI cZ cB cC 0 oal olt ols trso trob trme trwi tiso tiob time tiwi run ruki ruta rupr runu x1 chpu chco chwe x3 fose fosu) := hD
  refine lv_iload_n hx hb dK0_clear_27 rfl (lv_at hl 0 rfl) ?_
  replace hm := Option.some.inj hm
  simp only [Prod.mk.injEq] at hm
  obtain ⟨rfl, rfl, rfl, rfl⟩ := hm
  exact k_reti hx hb hr hlocks hP hD hS dK0_clear_28
def mK0_tries (oal : Int32) (v1 : Int32) : Option (Int32 × Int32) :=
  if v1 < 1 then
  (some ((-1), oal))
  else
  (if v1 ≤ 5000 then
    (some (v1, v1))
    else
    (some ((-1), oal)))
abbrev rmK0_tries : Room := { frames := 0, cells := 0, slots := 0, locals := 0 }
set_option maxHeartbeats 4000000 in
set_option maxRecDepth 100000 in
theorem kK0_tries (l : Launch) (D : va_G) (cI cZ cB cC : ClassId) (sz : Nat) (oa : Nat) (tra : Nat) (tra1 : Nat) (tra2 : Nat) (tra3 : Nat) (tia : Nat) (tia1 : Nat) (tia2 : Nat) (tia3 : Nat) (rua : Nat) (rua1 : Nat) (rua2 : Nat) (rua3 : Nat) (rua4 : Nat) (cha : Nat) (cha1 : Nat) (cha2 : Nat) (cha3 : Nat) (foa : Nat) (foa1 : Nat) (foa2 : Nat) (sba : Nat) (ocs : Int32) (oal : Int32) (olt : Int32) (ols : Int32) (trso : Int32) (trob : Nat → Int32) (trme : Nat → Int32) (trwi : Nat → Int32) (tiso : Int32) (tiob : Nat → Int32) (time : Nat → Int32) (tiwi : Nat → Int32) (run : Int32) (ruki : Nat → Int32) (ruta : Nat → Int32) (rupr : Nat → Int32) (runu : Nat → Int32) (chn : Int32) (chpu : Nat → Int32) (chco : Nat → Int32) (chwe : Nat → Int32) (fon : Int32) (fose : Nat → Int32) (fosu : Nat → Int32) (v1 : Int32) (r0 : Int32) (oal_r : Int32) (hm : mK0_tries oal v1 = some (r0, oal_r)) : Met l yK0_tries wsK0_tries rmK0_tries (va_Pc [.ref oa, .int v1] (Pr D (tyL cI cZ cB cC) sz (wM oa tra tra1 tra2 tra3 tia tia1 tia2 tia3 rua rua1 rua2 rua3 rua4 cha cha1 cha2 cha3 foa foa1 foa2 sba cI cZ cB cC ocs oal olt ols trso trob trme trwi tiso tiob time tiwi run ruki ruta rupr runu chn chpu chco chwe fon fose fosu))) (QI D (va_A (wM oa tra tra1 tra2 tra3 tia tia1 tia2 tia3 rua rua1 rua2 rua3 rua4 cha cha1 cha2 cha3 foa foa1 foa2 sba cI cZ cB cC ocs oal olt ols trso trob trme trwi tiso tiob time tiwi run ruki ruta rupr runu chn chpu chco chwe fon fose fosu) sz) r0 (wM oa tra tra1 tra2 tra3 tia tia1 tia2 tia3 rua rua1 rua2 rua3 rua4 cha cha1 cha2 cha3 foa foa1 foa2 sba cI cZ cB cC ocs oal_r olt ols trso trob trme trwi tiso tiob time tiwi run ruki ruta rupr runu chn chpu chco chwe fon fose fosu)) 0 0 (va_A (wM oa tra tra1 tra2 tra3 tia tia1 tia2 tia3 rua rua1 rua2 rua3 rua4 cha cha1 cha2 cha3 foa foa1 foa2 sba cI cZ cB cC ocs oal olt ols trso trob trme trwi tiso tiob time tiwi run ruki ruta rupr runu chn chpu chco chwe fon fose fosu) sz) := by
  refine Met.ofW (cc := cK0_tries) (maxL := 2) (ret := (some .int)) (by decide) rfl ?_
  intro p e s m args below meth c s₁ B hml hv
  obtain ⟨rfl, hsz, hP, hK, hD0, hN⟩ := hv
  have hx := B.exec
  have hb := B.bytes
  have hr := B.returns
  have hts := htsA (atoms_spec (ws := wsK0_tries) B.pre)
  have hown : s.vm.findClass RK0 = some m.cls := findClass_of_methodNamed B.named
  have hlocks := B.notSynchronized
  subst hsz
  have hD := hD0.self (sz := s.heap.size)
  generalize hAe : va_A (wM oa tra tra1 tra2 tra3 tia tia1 tia2 tia3 rua rua1 rua2 rua3 rua4 cha cha1 cha2 cha3 foa foa1 foa2 sba cI cZ cB cC ocs oal olt ols trso trob trme trwi tiso tiob time tiwi run ruki ruta rupr runu chn chpu chco chwe fon fose fosu) s.heap.size = A at hD ⊢
  have hA : ∀ q : Nat, s.heap.size ≤ q → A q := fun q h => by rw [← hAe]; exact Or.inr h
  refine kstart (A := A) hP (fun H hP hS => ?_)
  have hl := lv_entry ([.ref oa, .int v1]) (n := 2) (Nat.le_of_ble_eq_true rfl)
  rw [lg_entry_eq]
  generalize (lg_sl ([.ref oa, .int v1]) ++ List.replicate (2 - (lg_sl ([.ref oa, .int v1])).length) Slot.unset).toArray = ls at hl ⊢
  have hl : lv_has ls 2 [(0, .ref oa), (1, .int v1)] := hl
  unfold mK0_tries at hm
  refine lv_iload_n hx hb dK0_tries_0 rfl (lv_at hl 1 rfl) ?_
  refine lv_iconst (v := 1) hx hb dK0_tries_1 (by decide) ?_
  refine lv_icmp_lt (tgt := 12) hx hb dK0_tries_2 (by decide) (fun hc => ?_) (fun hc => ?_)
  · replace hm := ift hm hc
    refine lv_iconst (v := (-1)) hx hb dK0_tries_12 (by decide) ?_
    replace hm := Option.some.inj hm
    simp only [Prod.mk.injEq] at hm
    obtain ⟨rfl, rfl⟩ := hm
    exact k_reti hx hb hr hlocks hP hD hS dK0_tries_13
  · replace hm := iff_ hm hc
    refine lv_iload_n hx hb dK0_tries_5 rfl (lv_at hl 1 rfl) ?_
    refine lv_sipush (v := 5000) hx hb dK0_tries_6 (by decide) ?_
    refine lv_icmp_le (tgt := 14) hx hb dK0_tries_9 (by decide) (fun hc => ?_) (fun hc => ?_)
    · replace hm := ift hm hc
      refine lv_aload_n hx hb dK0_tries_14 rfl (lv_at hl 0 rfl) ?_
      refine lv_iload_n hx hb dK0_tries_15 rfl (lv_at hl 1 rfl) ?_
      refine va_put (D := D) (ci := 0) (v := .int v1) (ty := .int) (C := RK0) (T := TK0) (N := 10) hx hb hts inK0 tyK0 tyK0_ok nmK0 hown hK hP hD hS 0 rfl rfl 7 (by decide) (hts _ wdt1_150) (fun _ h9 => h9) rfl (by decide +kernel) rfl rfl (Nat.le_of_ble_eq_true rfl) dK0_tries_16 (fun H locs hP hD hS => ?_)
      have hP : va_P D vwCl (wM oa tra tra1 tra2 tra3 tia tia1 tia2 tia3 rua rua1 rua2 rua3 rua4 cha cha1 cha2 cha3 foa foa1 foa2 sba cI cZ cB cC ocs v1 olt ols trso trob trme trwi tiso tiob time tiwi run ruki ruta rupr runu chn chpu chco chwe fon fose fosu) H := hP
      have hD : va_D A (wM oa tra tra1 tra2 tra3 tia tia1 tia2 tia3 rua rua1 rua2 rua3 rua4 cha cha1 cha2 cha3 foa foa1 foa2 sba cI cZ cB cC ocs v1 olt ols trso trob trme trwi tiso tiob time tiwi run ruki ruta rupr runu chn chpu chco chwe fon fose fosu) := hD
      refine lv_iload_n hx hb dK0_tries_19 rfl (lv_at hl 1 rfl) ?_
      replace hm := Option.some.inj hm
      simp only [Prod.mk.injEq] at hm
      obtain ⟨rfl, rfl⟩ := hm
      exact k_reti hx hb hr hlocks hP hD hS dK0_tries_20
    · replace hm := iff_ hm hc
      refine lv_iconst (v := (-1)) hx hb dK0_tries_12 (by decide) ?_
      replace hm := Option.some.inj hm
      simp only [Prod.mk.injEq] at hm
      obtain ⟨rfl, rfl⟩ := hm
      exact k_reti hx hb hr hlocks hP hD hS dK0_tries_13
def mJ2_numberOfLeadingZeros_J61 (i0j61 : Int32) (i1j61 : Int32) : Option (Int32) :=
  if i0j61 < 4 then
  (some (i1j61 - (ush i0j61 1)))
  else
  (bd1 (some (i1j61 + (-2))) fun x1 => bd1 (some (ush i0j61 2)) fun x2 => some (x1 - (ush x2 1)))
def mJ2_numberOfLeadingZeros_J48 (i0j48 : Int32) (i1j48 : Int32) : Option (Int32) :=
  if i0j48 < 16 then
  (mJ2_numberOfLeadingZeros_J61 i0j48 i1j48)
  else
  (bd1 (some (i1j48 + (-4))) fun x3 => bd1 (some (ush i0j48 4)) fun x4 => mJ2_numberOfLeadingZeros_J61 x4 x3)
def mJ2_numberOfLeadingZeros_J33 (i0j33 : Int32) (i1j33 : Int32) : Option (Int32) :=
  if i0j33 < 256 then
  (mJ2_numberOfLeadingZeros_J48 i0j33 i1j33)
  else
  (bd1 (some (i1j33 + (-8))) fun x5 => bd1 (some (ush i0j33 8)) fun x6 => mJ2_numberOfLeadingZeros_J48 x6 x5)
def mJ2_numberOfLeadingZeros (v0 : Int32) : Option (Int32) :=
  if 0 < v0 then
  (if v0 < 65536 then
    (mJ2_numberOfLeadingZeros_J33 v0 31)
    else
    (bd1 (some (31 + (-16))) fun x7 => bd1 (some (ush v0 16)) fun x8 => mJ2_numberOfLeadingZeros_J33 x8 x7))
  else
  (if v0 = 0 then
    (some 32)
    else
    (some 0))
abbrev rmJ2_numberOfLeadingZeros : Room := { frames := 0, cells := 0, slots := 0, locals := 0 }
set_option maxHeartbeats 4000000 in
set_option maxRecDepth 100000 in
theorem kJ2_numberOfLeadingZeros (l : Launch) (D : va_G) (cI cZ cB cC : ClassId) (sz : Nat) (v0 : Int32) (r0 : Int32) (hm : mJ2_numberOfLeadingZeros v0 = some r0) : Met l yJ2_numberOfLeadingZeros wsJ2_numberOfLeadingZeros rmJ2_numberOfLeadingZeros (va_Pc [.int v0] (Pr D (tyL cI cZ cB cC) sz [])) (QI D (va_A [] sz) r0 []) 0 0 (va_A [] sz) := by
  refine Met.ofW (cc := cJ2_numberOfLeadingZeros) (maxL := 2) (ret := (some .int)) (by decide) rfl ?_
  intro p e s m args below meth c s₁ B hml hv
  obtain ⟨rfl, hsz, hP, hK, hD0, hN⟩ := hv
  have hx := B.exec
  have hb := B.bytes
  have hr := B.returns
  have hts := htsA (atoms_spec (ws := wsJ2_numberOfLeadingZeros) B.pre)
  have hown : s.vm.findClass RJ2 = some m.cls := findClass_of_methodNamed B.named
  have hlocks := B.notSynchronized
  subst hsz
  have hD := hD0.self (sz := s.heap.size)
  generalize hAe : va_A [] s.heap.size = A at hD ⊢
  have hA : ∀ q : Nat, s.heap.size ≤ q → A q := fun q h => by rw [← hAe]; exact Or.inr h
  refine kstart (A := A) hP (fun H hP hS => ?_)
  have hl := lv_entry ([.int v0]) (n := 2) (Nat.le_of_ble_eq_true rfl)
  rw [lg_entry_eq]
  generalize (lg_sl ([.int v0]) ++ List.replicate (2 - (lg_sl ([.int v0])).length) Slot.unset).toArray = ls at hl ⊢
  have hl : lv_has ls 2 [(0, .int v0)] := hl
  unfold mJ2_numberOfLeadingZeros at hm
  refine lv_iload_n hx hb dJ2_numberOfLeadingZeros_0 rfl (lv_at hl 0 rfl) ?_
  refine lv_if_gt (tgt := 15) hx hb dJ2_numberOfLeadingZeros_1 (by decide) (fun hc => ?_) (fun hc => ?_)
  · replace hm := ift hm hc
    refine lv_bipush (v := 31) hx hb dJ2_numberOfLeadingZeros_15 (by decide) ?_
    refine lv_istore_n (lv' := [(1, .int 31), (0, .int v0)]) hx hb dJ2_numberOfLeadingZeros_17 rfl hl (by decide) rfl (fun ls hl => ?_)
    refine lv_iload_n hx hb dJ2_numberOfLeadingZeros_18 rfl (lv_at hl 1 rfl) ?_
    refine lv_ldcw (v := 65536) hx hb hown (hts _ wdt1_226) dJ2_numberOfLeadingZeros_19 ?_
    have jn33 : ∀ (i0j33 : Int32) (i1j33 : Int32) (H : Heap) (locs : List Loc) (ls : Array Slot), mJ2_numberOfLeadingZeros_J33 i0j33 i1j33 = some r0 → va_P D vwCl [] H → va_D A [] → va_S A s.heap H locs → lv_has ls 2 [(0, .int i0j33), (1, .int i1j33)] → W p l e (headSpec wsJ2_numberOfLeadingZeros rmJ2_numberOfLeadingZeros).room s m ([.int v0] : List Value).toArray below meth c H locs 0 0 (MQ below (QI D A r0 []) ([.int v0] : List Value).toArray s 0 0 A) (F0 m 33 ls []) := by
      intro i0j33 i1j33 H locs ls hm hP hD hS hl
      unfold mJ2_numberOfLeadingZeros_J33 at hm
      refine lv_iload_n hx hb dJ2_numberOfLeadingZeros_33 rfl (lv_at hl 0 rfl) ?_
      refine lv_sipush (v := 256) hx hb dJ2_numberOfLeadingZeros_34 (by decide) ?_
      have jn48 : ∀ (i0j48 : Int32) (i1j48 : Int32) (H : Heap) (locs : List Loc) (ls : Array Slot), mJ2_numberOfLeadingZeros_J48 i0j48 i1j48 = some r0 → va_P D vwCl [] H → va_D A [] → va_S A s.heap H locs → lv_has ls 2 [(0, .int i0j48), (1, .int i1j48)] → W p l e (headSpec wsJ2_numberOfLeadingZeros rmJ2_numberOfLeadingZeros).room s m ([.int v0] : List Value).toArray below meth c H locs 0 0 (MQ below (QI D A r0 []) ([.int v0] : List Value).toArray s 0 0 A) (F0 m 48 ls []) := by
        intro i0j48 i1j48 H locs ls hm hP hD hS hl
        unfold mJ2_numberOfLeadingZeros_J48 at hm
        refine lv_iload_n hx hb dJ2_numberOfLeadingZeros_48 rfl (lv_at hl 0 rfl) ?_
        refine lv_bipush (v := 16) hx hb dJ2_numberOfLeadingZeros_49 (by decide) ?_
        have jn61 : ∀ (i0j61 : Int32) (i1j61 : Int32) (H : Heap) (locs : List Loc) (ls : Array Slot), mJ2_numberOfLeadingZeros_J61 i0j61 i1j61 = some r0 → va_P D vwCl [] H → va_D A [] → va_S A s.heap H locs → lv_has ls 2 [(0, .int i0j61), (1, .int i1j61)] → W p l e (headSpec wsJ2_numberOfLeadingZeros rmJ2_numberOfLeadingZeros).room s m ([.int v0] : List Value).toArray below meth c H locs 0 0 (MQ below (QI D A r0 []) ([.int v0] : List Value).toArray s 0 0 A) (F0 m 61 ls []) := by
          intro i0j61 i1j61 H locs ls hm hP hD hS hl
          unfold mJ2_numberOfLeadingZeros_J61 at hm
          refine lv_iload_n hx hb dJ2_numberOfLeadingZeros_61 rfl (lv_at hl 0 rfl) ?_
          refine lv_iconst (v := 4) hx hb dJ2_numberOfLeadingZeros_62 (by decide) ?_
          refine lv_icmp_lt (tgt := 73) hx hb dJ2_numberOfLeadingZeros_63 (by decide) (fun hc => ?_) (fun hc => ?_)
          · replace hm := ift hm hc
            refine lv_iload_n hx hb dJ2_numberOfLeadingZeros_73 rfl (lv_at hl 1 rfl) ?_
            refine lv_iload_n hx hb dJ2_numberOfLeadingZeros_74 rfl (lv_at hl 0 rfl) ?_
            refine lv_iconst (v := 1) hx hb dJ2_numberOfLeadingZeros_75 (by decide) ?_
            refine lv_iushr (v := ush i0j61 1) hx hb dJ2_numberOfLeadingZeros_76 rfl ?_
            refine lv_isub hx hb dJ2_numberOfLeadingZeros_77 ?_
            replace hm := Option.some.inj hm
            subst hm
            exact k_reti hx hb hr hlocks hP hD hS dJ2_numberOfLeadingZeros_78
          · replace hm := iff_ hm hc
            obtain ⟨x1, ex1, hm⟩ := bd1_s hm
            refine lv_iinc (v := x1) (lv' := [(1, .int x1), (0, .int i0j61)]) hx hb dJ2_numberOfLeadingZeros_66 hl (k := 1) rfl (by rw [← Option.some.inj ex1]; rfl) (by decide) rfl (fun ls hl => ?_)
            refine lv_iload_n hx hb dJ2_numberOfLeadingZeros_69 rfl (lv_at hl 1 rfl) ?_
            refine lv_iconst (v := 2) hx hb dJ2_numberOfLeadingZeros_70 (by decide) ?_
            refine lv_iushr (v := ush i0j61 2) hx hb dJ2_numberOfLeadingZeros_71 rfl ?_
            obtain ⟨x2, ex2, hm⟩ := bd1_s hm
            refine topi (Option.some.inj ex2) ?_
            refine lv_istore_n (lv' := [(0, .int x2), (1, .int x1)]) hx hb dJ2_numberOfLeadingZeros_72 rfl hl (by decide) rfl (fun ls hl => ?_)
            refine lv_iload_n hx hb dJ2_numberOfLeadingZeros_73 rfl (lv_at hl 1 rfl) ?_
            refine lv_iload_n hx hb dJ2_numberOfLeadingZeros_74 rfl (lv_at hl 0 rfl) ?_
            refine lv_iconst (v := 1) hx hb dJ2_numberOfLeadingZeros_75 (by decide) ?_
            refine lv_iushr (v := ush x2 1) hx hb dJ2_numberOfLeadingZeros_76 rfl ?_
            refine lv_isub hx hb dJ2_numberOfLeadingZeros_77 ?_
            replace hm := Option.some.inj hm
            subst hm
            exact k_reti hx hb hr hlocks hP hD hS dJ2_numberOfLeadingZeros_78
        refine lv_icmp_lt (tgt := 61) hx hb dJ2_numberOfLeadingZeros_51 (by decide) (fun hc => ?_) (fun hc => ?_)
        · replace hm := ift hm hc
          exact jn61 i0j48 i1j48 _ _ _ hm hP hD hS (lv_sub hl [0, 1] rfl)
        · replace hm := iff_ hm hc
          obtain ⟨x3, ex3, hm⟩ := bd1_s hm
          refine lv_iinc (v := x3) (lv' := [(1, .int x3), (0, .int i0j48)]) hx hb dJ2_numberOfLeadingZeros_54 hl (k := 1) rfl (by rw [← Option.some.inj ex3]; rfl) (by decide) rfl (fun ls hl => ?_)
          refine lv_iload_n hx hb dJ2_numberOfLeadingZeros_57 rfl (lv_at hl 1 rfl) ?_
          refine lv_iconst (v := 4) hx hb dJ2_numberOfLeadingZeros_58 (by decide) ?_
          refine lv_iushr (v := ush i0j48 4) hx hb dJ2_numberOfLeadingZeros_59 rfl ?_
          obtain ⟨x4, ex4, hm⟩ := bd1_s hm
          refine topi (Option.some.inj ex4) ?_
          refine lv_istore_n (lv' := [(0, .int x4), (1, .int x3)]) hx hb dJ2_numberOfLeadingZeros_60 rfl hl (by decide) rfl (fun ls hl => ?_)
          exact jn61 x4 x3 _ _ _ hm hP hD hS (lv_sub hl [0, 1] rfl)
      refine lv_icmp_lt (tgt := 48) hx hb dJ2_numberOfLeadingZeros_37 (by decide) (fun hc => ?_) (fun hc => ?_)
      · replace hm := ift hm hc
        exact jn48 i0j33 i1j33 _ _ _ hm hP hD hS (lv_sub hl [0, 1] rfl)
      · replace hm := iff_ hm hc
        obtain ⟨x5, ex5, hm⟩ := bd1_s hm
        refine lv_iinc (v := x5) (lv' := [(1, .int x5), (0, .int i0j33)]) hx hb dJ2_numberOfLeadingZeros_40 hl (k := 1) rfl (by rw [← Option.some.inj ex5]; rfl) (by decide) rfl (fun ls hl => ?_)
        refine lv_iload_n hx hb dJ2_numberOfLeadingZeros_43 rfl (lv_at hl 1 rfl) ?_
        refine lv_bipush (v := 8) hx hb dJ2_numberOfLeadingZeros_44 (by decide) ?_
        refine lv_iushr (v := ush i0j33 8) hx hb dJ2_numberOfLeadingZeros_46 rfl ?_
        obtain ⟨x6, ex6, hm⟩ := bd1_s hm
        refine topi (Option.some.inj ex6) ?_
        refine lv_istore_n (lv' := [(0, .int x6), (1, .int x5)]) hx hb dJ2_numberOfLeadingZeros_47 rfl hl (by decide) rfl (fun ls hl => ?_)
        exact jn48 x6 x5 _ _ _ hm hP hD hS (lv_sub hl [0, 1] rfl)
    refine lv_icmp_lt (tgt := 33) hx hb dJ2_numberOfLeadingZeros_22 (by decide) (fun hc => ?_) (fun hc => ?_)
    · replace hm := ift hm hc
      exact jn33 v0 31 _ _ _ hm hP hD hS (lv_sub hl [1, 0] rfl)
    · replace hm := iff_ hm hc
      obtain ⟨x7, ex7, hm⟩ := bd1_s hm
      refine lv_iinc (v := x7) (lv' := [(1, .int x7), (0, .int v0)]) hx hb dJ2_numberOfLeadingZeros_25 hl (k := 0) rfl (by rw [← Option.some.inj ex7]; rfl) (by decide) rfl (fun ls hl => ?_)
      refine lv_iload_n hx hb dJ2_numberOfLeadingZeros_28 rfl (lv_at hl 1 rfl) ?_
      refine lv_bipush (v := 16) hx hb dJ2_numberOfLeadingZeros_29 (by decide) ?_
      refine lv_iushr (v := ush v0 16) hx hb dJ2_numberOfLeadingZeros_31 rfl ?_
      obtain ⟨x8, ex8, hm⟩ := bd1_s hm
      refine topi (Option.some.inj ex8) ?_
      refine lv_istore_n (lv' := [(0, .int x8), (1, .int x7)]) hx hb dJ2_numberOfLeadingZeros_32 rfl hl (by decide) rfl (fun ls hl => ?_)
      exact jn33 x8 x7 _ _ _ hm hP hD hS (lv_sub hl [0, 1] rfl)
  · replace hm := iff_ hm hc
    refine lv_iload_n hx hb dJ2_numberOfLeadingZeros_4 rfl (lv_at hl 0 rfl) ?_
    refine lv_if_ne (tgt := 13) hx hb dJ2_numberOfLeadingZeros_5 (by decide) (fun hc => ?_) (fun hc => ?_)
    · replace hm := iff_ hm hc
      refine lv_iconst (v := 0) hx hb dJ2_numberOfLeadingZeros_13 (by decide) ?_
      replace hm := Option.some.inj hm
      subst hm
      exact k_reti hx hb hr hlocks hP hD hS dJ2_numberOfLeadingZeros_14
    · replace hm := ift hm hc
      refine lv_bipush (v := 32) hx hb dJ2_numberOfLeadingZeros_8 (by decide) ?_
      refine lv_goto (tgt := 14) hx hb dJ2_numberOfLeadingZeros_10 (by decide) ?_
      replace hm := Option.some.inj hm
      subst hm
      exact k_reti hx hb hr hlocks hP hD hS dJ2_numberOfLeadingZeros_14
def mK0_nextSet_A2 (v0 : Int32) (v1 : Int32) (v2 : Int32) (i3x2 : Int32) : Option (Int32) :=
  bd1 (some (v0 &&& ((1 <<< ((v1 - i3x2) &&& 31)) - 1))) fun x1 => if x1 = 0 then
  (if v2 ≤ i3x2 then
    (some ((-1)))
    else
    (some ((1 <<< ((i3x2 + 1) &&& 31)) - 1)))
  else
  (bd1 (mJ2_numberOfLeadingZeros x1) fun x2 => bd1 (some (31 - x2)) fun x4 => bd1 (some (((1 <<< ((i3x2 + 1) &&& 31)) - 1) <<< ((x4 + 1) &&& 31))) fun x5 => some ((x1 &&& ((1 <<< (x4 &&& 31)) ^^^ ((-1)))) ||| x5))
def mK0_nextSet_B2 (v0 : Int32) (v1 : Int32) (kx2 : Int32 → Option (Int32)) (rc2 : Int32 → Option (Int32)) (i3l2 : Int32) : Option (Int32) :=
  if v1 ≤ i3l2 then
  (kx2 i3l2)
  else
  (bd1 (mK0_hasMember v0 ((v1 - 1) - i3l2)) fun x6 => if x6 = 0 then
    (kx2 i3l2)
    else
    (bd1 (some (i3l2 + 1)) fun x8 => rc2 x8))
def mK0_nextSet_L2 (v0 : Int32) (v1 : Int32) (kx2 : Int32 → Option (Int32)) : Nat → Int32 → Option (Int32)
  | 0, _ => none
  | n + 1, i3l2 => mK0_nextSet_B2 v0 v1 kx2 (mK0_nextSet_L2 v0 v1 kx2 n) i3l2
def mK0_nextSet (v0 : Int32) (v1 : Int32) (v2 : Int32) : Option (Int32) :=
  mK0_nextSet_L2 v0 v1 (mK0_nextSet_A2 v0 v1 v2) 5000 0
abbrev rmK0_nextSet : Room := { frames := 1, cells := 0, slots := 0, locals := 21 }
set_option maxHeartbeats 4000000 in
set_option maxRecDepth 100000 in
theorem kK0_nextSet (l : Launch) (D : va_G) (cI cZ cB cC : ClassId) (sz : Nat) (v0 : Int32) (v1 : Int32) (v2 : Int32) (r0 : Int32) (hm : mK0_nextSet v0 v1 v2 = some r0) : Met l yK0_nextSet wsK0_nextSet rmK0_nextSet (va_Pc [.int v0, .int v1, .int v2] (Pr D (tyL cI cZ cB cC) sz [])) (QI D (va_A [] sz) r0 []) 0 0 (va_A [] sz) := by
  refine Met.ofW (cc := cK0_nextSet) (maxL := 7) (ret := (some .int)) (by decide) rfl ?_
  intro p e s m args below meth c s₁ B hml hv
  obtain ⟨rfl, hsz, hP, hK, hD0, hN⟩ := hv
  have hx := B.exec
  have hb := B.bytes
  have hr := B.returns
  have hts := htsA (atoms_spec (ws := wsK0_nextSet) B.pre)
  have hown : s.vm.findClass RK0 = some m.cls := findClass_of_methodNamed B.named
  have hlocks := B.notSynchronized
  subst hsz
  have hD := hD0.self (sz := s.heap.size)
  generalize hAe : va_A [] s.heap.size = A at hD ⊢
  have hA : ∀ q : Nat, s.heap.size ≤ q → A q := fun q h => by rw [← hAe]; exact Or.inr h
  refine kstart (A := A) hP (fun H hP hS => ?_)
  have hl := lv_entry ([.int v0, .int v1, .int v2]) (n := 7) (Nat.le_of_ble_eq_true rfl)
  rw [lg_entry_eq]
  generalize (lg_sl ([.int v0, .int v1, .int v2]) ++ List.replicate (7 - (lg_sl ([.int v0, .int v1, .int v2])).length) Slot.unset).toArray = ls at hl ⊢
  have hl : lv_has ls 7 [(0, .int v0), (1, .int v1), (2, .int v2)] := hl
  unfold mK0_nextSet at hm
  refine lv_iconst (v := 0) hx hb dK0_nextSet_0 (by decide) ?_
  refine lv_istore_n (lv' := [(3, .int 0), (0, .int v0), (1, .int v1), (2, .int v2)]) hx hb dK0_nextSet_1 rfl hl (by decide) rfl (fun ls hl => ?_)
  have lx2 : ∀ (i3x2 : Int32) (H : Heap) (locs : List Loc) (ls : Array Slot), mK0_nextSet_A2 v0 v1 v2 i3x2 = some r0 → va_P D vwCl [] H → va_D A [] → va_S A s.heap H locs → lv_has ls 7 [(0, .int v0), (1, .int v1), (2, .int v2), (3, .int i3x2)] → W p l e (headSpec wsK0_nextSet rmK0_nextSet).room s m ([.int v0, .int v1, .int v2] : List Value).toArray below meth c H locs 0 0 (MQ below (QI D A r0 []) ([.int v0, .int v1, .int v2] : List Value).toArray s 0 0 A) (F0 m 25 ls []) := by
    intro i3x2 H locs ls hm hP hD hS hl
    unfold mK0_nextSet_A2 at hm
    refine lv_iload_n hx hb dK0_nextSet_25 rfl (lv_at hl 0 rfl) ?_
    refine lv_iconst (v := 1) hx hb dK0_nextSet_26 (by decide) ?_
    refine lv_iload_n hx hb dK0_nextSet_27 rfl (lv_at hl 1 rfl) ?_
    refine lv_iload_n hx hb dK0_nextSet_28 rfl (lv_at hl 3 rfl) ?_
    refine lv_isub hx hb dK0_nextSet_29 ?_
    refine lv_ishl hx hb dK0_nextSet_30 ?_
    refine lv_iconst (v := 1) hx hb dK0_nextSet_31 (by decide) ?_
    refine lv_isub hx hb dK0_nextSet_32 ?_
    refine lv_iand hx hb dK0_nextSet_33 ?_
    obtain ⟨x1, ex1, hm⟩ := bd1_s hm
    refine topi (Option.some.inj ex1) ?_
    refine lv_istore (lv' := [(4, .int x1), (0, .int v0), (1, .int v1), (2, .int v2), (3, .int i3x2)]) hx hb dK0_nextSet_34 hl (by decide) rfl (fun ls hl => ?_)
    refine lv_iload hx hb dK0_nextSet_36 (lv_at hl 0 rfl) ?_
    refine lv_if_ne (tgt := 58) hx hb dK0_nextSet_38 (by decide) (fun hc => ?_) (fun hc => ?_)
    · replace hm := iff_ hm hc
      refine lv_bipush (v := 31) hx hb dK0_nextSet_58 (by decide) ?_
      refine lv_iload hx hb dK0_nextSet_60 (lv_at hl 0 rfl) ?_
      obtain ⟨x2, ec3, hm⟩ := bd1_s hm
      have hPc : va_P D vwCl [] H := va_P0
      have hDc : va_D A [] := va_D0
      refine k_calli0 (va_runS (As := [.int x1]) (rest := [.int 31]) ⟨hx, hb, hml, hown, hts⟩ (kJ2_numberOfLeadingZeros l D cI cZ cB cC H.size x1 x2 ec3) (va_cwS 1 hts (gdS wdt2_124 wdt2_125 wdt1_12 gkJ2_numberOfLeadingZeros) rfl rfl rfl (by decide +kernel) ⟨Nat.le_of_ble_eq_true rfl, Nat.le_of_ble_eq_true rfl⟩) ⟨Pr_blind, fun U hU hW => ⟨rfl, Pr_at hK hN hPc hDc hU hW⟩⟩ rfl rfl hl.1 rfl (lv_room (Nat.le_of_ble_eq_true rfl)) dK0_nextSet_62 ⟨Nat.le_of_ble_eq_true rfl, Nat.le_of_ble_eq_true rfl⟩) hP hD hS hA (fun H locs hP hD hS => ?_)
      refine lv_isub hx hb dK0_nextSet_65 ?_
      obtain ⟨x4, ex4, hm⟩ := bd1_s hm
      refine topi (Option.some.inj ex4) ?_
      refine lv_istore (lv' := [(5, .int x4), (4, .int x1), (0, .int v0), (1, .int v1), (2, .int v2), (3, .int i3x2)]) hx hb dK0_nextSet_66 hl (by decide) rfl (fun ls hl => ?_)
      refine lv_iconst (v := 1) hx hb dK0_nextSet_68 (by decide) ?_
      refine lv_iload_n hx hb dK0_nextSet_69 rfl (lv_at hl 5 rfl) ?_
      refine lv_iconst (v := 1) hx hb dK0_nextSet_70 (by decide) ?_
      refine lv_iadd hx hb dK0_nextSet_71 ?_
      refine lv_ishl hx hb dK0_nextSet_72 ?_
      refine lv_iconst (v := 1) hx hb dK0_nextSet_73 (by decide) ?_
      refine lv_isub hx hb dK0_nextSet_74 ?_
      refine lv_iload hx hb dK0_nextSet_75 (lv_at hl 0 rfl) ?_
      refine lv_iconst (v := 1) hx hb dK0_nextSet_77 (by decide) ?_
      refine lv_iadd hx hb dK0_nextSet_78 ?_
      refine lv_ishl hx hb dK0_nextSet_79 ?_
      obtain ⟨x5, ex5, hm⟩ := bd1_s hm
      refine topi (Option.some.inj ex5) ?_
      refine lv_istore (lv' := [(6, .int x5), (5, .int x4), (4, .int x1), (0, .int v0), (1, .int v1), (2, .int v2), (3, .int i3x2)]) hx hb dK0_nextSet_80 hl (by decide) rfl (fun ls hl => ?_)
      refine lv_iload hx hb dK0_nextSet_82 (lv_at hl 2 rfl) ?_
      refine lv_iconst (v := 1) hx hb dK0_nextSet_84 (by decide) ?_
      refine lv_iload hx hb dK0_nextSet_85 (lv_at hl 1 rfl) ?_
      refine lv_ishl hx hb dK0_nextSet_87 ?_
      refine lv_iconst (v := (-1)) hx hb dK0_nextSet_88 (by decide) ?_
      refine lv_ixor hx hb dK0_nextSet_89 ?_
      refine lv_iand hx hb dK0_nextSet_90 ?_
      refine lv_iload hx hb dK0_nextSet_91 (lv_at hl 0 rfl) ?_
      refine lv_ior hx hb dK0_nextSet_93 ?_
      replace hm := Option.some.inj hm
      subst hm
      exact k_reti hx hb hr hlocks hP hD hS dK0_nextSet_94
    · replace hm := ift hm hc
      refine lv_iload_n hx hb dK0_nextSet_41 rfl (lv_at hl 4 rfl) ?_
      refine lv_iload_n hx hb dK0_nextSet_42 rfl (lv_at hl 3 rfl) ?_
      refine lv_icmp_ge (tgt := 56) hx hb dK0_nextSet_43 (by decide) (fun hc => ?_) (fun hc => ?_)
      · replace hm := ift hm hc
        refine lv_iconst (v := (-1)) hx hb dK0_nextSet_56 (by decide) ?_
        replace hm := Option.some.inj hm
        subst hm
        exact k_reti hx hb hr hlocks hP hD hS dK0_nextSet_57
      · replace hm := iff_ hm hc
        refine lv_iconst (v := 1) hx hb dK0_nextSet_46 (by decide) ?_
        refine lv_iload_n hx hb dK0_nextSet_47 rfl (lv_at hl 4 rfl) ?_
        refine lv_iconst (v := 1) hx hb dK0_nextSet_48 (by decide) ?_
        refine lv_iadd hx hb dK0_nextSet_49 ?_
        refine lv_ishl hx hb dK0_nextSet_50 ?_
        refine lv_iconst (v := 1) hx hb dK0_nextSet_51 (by decide) ?_
        refine lv_isub hx hb dK0_nextSet_52 ?_
        refine lv_goto (tgt := 57) hx hb dK0_nextSet_53 (by decide) ?_
        replace hm := Option.some.inj hm
        subst hm
        exact k_reti hx hb hr hlocks hP hD hS dK0_nextSet_57
  have lp2 : ∀ (n2 : Nat) (i3l2 : Int32) (H : Heap) (locs : List Loc) (ls : Array Slot), mK0_nextSet_L2 v0 v1 (mK0_nextSet_A2 v0 v1 v2) n2 i3l2 = some r0 → va_P D vwCl [] H → va_D A [] → va_S A s.heap H locs → lv_has ls 7 [(3, .int i3l2), (0, .int v0), (1, .int v1), (2, .int v2)] → W p l e (headSpec wsK0_nextSet rmK0_nextSet).room s m ([.int v0, .int v1, .int v2] : List Value).toArray below meth c H locs 0 0 (MQ below (QI D A r0 []) ([.int v0, .int v1, .int v2] : List Value).toArray s 0 0 A) (F0 m 2 ls []) := by
    intro n2
    induction n2 with
    | zero => intro i3l2 H locs ls hm; exact nomatch (show none = _ from hm)
    | succ n2 ih2 =>
      intro i3l2 H locs ls hm hP hD hS hl
      replace hm : mK0_nextSet_B2 v0 v1 (mK0_nextSet_A2 v0 v1 v2) (mK0_nextSet_L2 v0 v1 (mK0_nextSet_A2 v0 v1 v2) n2) i3l2 = some r0 := hm
      unfold mK0_nextSet_B2 at hm
      refine lv_iload_n hx hb dK0_nextSet_2 rfl (lv_at hl 0 rfl) ?_
      refine lv_iload_n hx hb dK0_nextSet_3 rfl (lv_at hl 2 rfl) ?_
      refine lv_icmp_ge (tgt := 25) hx hb dK0_nextSet_4 (by decide) (fun hc => ?_) (fun hc => ?_)
      · replace hm := ift hm hc
        exact lx2 i3l2 _ _ _ hm hP hD hS (lv_sub hl [1, 2, 3, 0] rfl)
      · replace hm := iff_ hm hc
        refine lv_iload_n hx hb dK0_nextSet_7 rfl (lv_at hl 1 rfl) ?_
        refine lv_iload_n hx hb dK0_nextSet_8 rfl (lv_at hl 2 rfl) ?_
        refine lv_iconst (v := 1) hx hb dK0_nextSet_9 (by decide) ?_
        refine lv_isub hx hb dK0_nextSet_10 ?_
        refine lv_iload_n hx hb dK0_nextSet_11 rfl (lv_at hl 0 rfl) ?_
        refine lv_isub hx hb dK0_nextSet_12 ?_
        obtain ⟨x6, ec7, hm⟩ := bd1_s hm
        have hPc : va_P D vwCl [] H := va_P0
        have hDc : va_D A [] := va_D0
        refine k_calli0 (va_runS (As := [.int v0, .int ((v1 - 1) - i3l2)]) (rest := []) ⟨hx, hb, hml, hown, hts⟩ (kK0_hasMember l D cI cZ cB cC H.size v0 ((v1 - 1) - i3l2) x6 ec7) (va_cwS 2 hts (gdS wdt2_41 wdt1_200 wdt1_1 gkK0_hasMember) rfl rfl rfl (by decide +kernel) ⟨Nat.le_of_ble_eq_true rfl, Nat.le_of_ble_eq_true rfl⟩) ⟨Pr_blind, fun U hU hW => ⟨rfl, Pr_at hK hN hPc hDc hU hW⟩⟩ rfl rfl hl.1 rfl (lv_room (Nat.le_of_ble_eq_true rfl)) dK0_nextSet_13 ⟨Nat.le_of_ble_eq_true rfl, Nat.le_of_ble_eq_true rfl⟩) hP hD hS hA (fun H locs hP hD hS => ?_)
        refine lv_if_eq (tgt := 25) hx hb dK0_nextSet_16 (by decide) (fun hc => ?_) (fun hc => ?_)
        · replace hm := ift hm hc
          exact lx2 i3l2 _ _ _ hm hP hD hS (lv_sub hl [1, 2, 3, 0] rfl)
        · replace hm := iff_ hm hc
          obtain ⟨x8, ex8, hm⟩ := bd1_s hm
          refine lv_iinc (v := x8) (lv' := [(3, .int x8), (0, .int v0), (1, .int v1), (2, .int v2)]) hx hb dK0_nextSet_19 hl (k := 0) rfl (by rw [← Option.some.inj ex8]; rfl) (by decide) rfl (fun ls hl => ?_)
          refine lv_goto (tgt := 2) hx hb dK0_nextSet_22 (by decide) ?_
          exact ih2 x8 _ _ _ hm hP hD hS (lv_sub hl [0, 1, 2, 3] rfl)
  exact lp2 5000 0 _ _ _ hm hP hD hS (lv_sub hl [0, 1, 2, 3] rfl)
def mK4_hasPartOf_A2 : Option (Int32) :=
  some 0
def mK4_hasPartOf_B2 (fn : Int32) (fse : Nat → Int32) (v1 : Int32) (kx2 : Option (Int32)) (rc2 : Int32 → Option (Int32)) (i2l2 : Int32) : Option (Int32) :=
  if fn ≤ i2l2 then
  (kx2)
  else
  (bd1 (rd fse 30 i2l2) fun x1 => if (x1 &&& (v1 ^^^ ((-1)))) = 0 then
    (some 1)
    else
    (bd1 (some (i2l2 + 1)) fun x2 => rc2 x2))
def mK4_hasPartOf_L2 (fn : Int32) (fse : Nat → Int32) (v1 : Int32) (kx2 : Option (Int32)) : Nat → Int32 → Option (Int32)
  | 0, _ => none
  | n + 1, i2l2 => mK4_hasPartOf_B2 fn fse v1 kx2 (mK4_hasPartOf_L2 fn fse v1 kx2 n) i2l2
def mK4_hasPartOf (fn : Int32) (fse : Nat → Int32) (v1 : Int32) : Option (Int32) :=
  mK4_hasPartOf_L2 fn fse v1 (mK4_hasPartOf_A2) 5000 0
abbrev rmK4_hasPartOf : Room := { frames := 0, cells := 0, slots := 0, locals := 0 }
set_option maxHeartbeats 4000000 in
set_option maxRecDepth 100000 in
theorem kK4_hasPartOf (l : Launch) (D : va_G) (cI cZ cB cC : ClassId) (sz : Nat) (fa : Nat) (fa1 : Nat) (fa2 : Nat) (fn : Int32) (fse : Nat → Int32) (fsu : Nat → Int32) (v1 : Int32) (r0 : Int32) (hm : mK4_hasPartOf fn fse v1 = some r0) : Met l yK4_hasPartOf wsK4_hasPartOf rmK4_hasPartOf (va_Pc [.ref fa, .int v1] (Pr D (tyL cI cZ cB cC) sz (wF fa fa1 fa2 cI cZ cB cC fn fse fsu))) (QI D (va_A (wF fa fa1 fa2 cI cZ cB cC fn fse fsu) sz) r0 (wF fa fa1 fa2 cI cZ cB cC fn fse fsu)) 0 0 (va_A (wF fa fa1 fa2 cI cZ cB cC fn fse fsu) sz) := by
  refine Met.ofW (cc := cK4_hasPartOf) (maxL := 3) (ret := (some .boolean)) (by decide) rfl ?_
  intro p e s m args below meth c s₁ B hml hv
  obtain ⟨rfl, hsz, hP, hK, hD0, hN⟩ := hv
  have hx := B.exec
  have hb := B.bytes
  have hr := B.returns
  have hts := htsA (atoms_spec (ws := wsK4_hasPartOf) B.pre)
  have hown : s.vm.findClass RK4 = some m.cls := findClass_of_methodNamed B.named
  have hlocks := B.notSynchronized
  subst hsz
  have hD := hD0.self (sz := s.heap.size)
  generalize hAe : va_A (wF fa fa1 fa2 cI cZ cB cC fn fse fsu) s.heap.size = A at hD ⊢
  have hA : ∀ q : Nat, s.heap.size ≤ q → A q := fun q h => by rw [← hAe]; exact Or.inr h
  refine kstart (A := A) hP (fun H hP hS => ?_)
  have hl := lv_entry ([.ref fa, .int v1]) (n := 3) (Nat.le_of_ble_eq_true rfl)
  rw [lg_entry_eq]
  generalize (lg_sl ([.ref fa, .int v1]) ++ List.replicate (3 - (lg_sl ([.ref fa, .int v1])).length) Slot.unset).toArray = ls at hl ⊢
  have hl : lv_has ls 3 [(0, .ref fa), (1, .int v1)] := hl
  unfold mK4_hasPartOf at hm
  refine lv_iconst (v := 0) hx hb dK4_hasPartOf_0 (by decide) ?_
  refine lv_istore_n (lv' := [(2, .int 0), (0, .ref fa), (1, .int v1)]) hx hb dK4_hasPartOf_1 rfl hl (by decide) rfl (fun ls hl => ?_)
  have lx2 : ∀ (H : Heap) (locs : List Loc) (ls : Array Slot), mK4_hasPartOf_A2 = some r0 → va_P D vwCl (wF fa fa1 fa2 cI cZ cB cC fn fse fsu) H → va_D A (wF fa fa1 fa2 cI cZ cB cC fn fse fsu) → va_S A s.heap H locs → lv_has ls 3 [] → W p l e (headSpec wsK4_hasPartOf rmK4_hasPartOf).room s m ([.ref fa, .int v1] : List Value).toArray below meth c H locs 0 0 (MQ below (QI D A r0 (wF fa fa1 fa2 cI cZ cB cC fn fse fsu)) ([.ref fa, .int v1] : List Value).toArray s 0 0 A) (F0 m 31 ls []) := by
    intro H locs ls hm hP hD hS hl
    unfold mK4_hasPartOf_A2 at hm
    refine lv_iconst (v := 0) hx hb dK4_hasPartOf_31 (by decide) ?_
    replace hm := Option.some.inj hm
    subst hm
    exact k_retz hx hb hr hlocks rfl hP hD hS dK4_hasPartOf_32
  have lp2 : ∀ (n2 : Nat) (i2l2 : Int32) (H : Heap) (locs : List Loc) (ls : Array Slot), mK4_hasPartOf_L2 fn fse v1 (mK4_hasPartOf_A2) n2 i2l2 = some r0 → va_P D vwCl (wF fa fa1 fa2 cI cZ cB cC fn fse fsu) H → va_D A (wF fa fa1 fa2 cI cZ cB cC fn fse fsu) → va_S A s.heap H locs → lv_has ls 3 [(2, .int i2l2), (0, .ref fa), (1, .int v1)] → W p l e (headSpec wsK4_hasPartOf rmK4_hasPartOf).room s m ([.ref fa, .int v1] : List Value).toArray below meth c H locs 0 0 (MQ below (QI D A r0 (wF fa fa1 fa2 cI cZ cB cC fn fse fsu)) ([.ref fa, .int v1] : List Value).toArray s 0 0 A) (F0 m 2 ls []) := by
    intro n2
    induction n2 with
    | zero => intro i2l2 H locs ls hm; exact nomatch (show none = _ from hm)
    | succ n2 ih2 =>
      intro i2l2 H locs ls hm hP hD hS hl
      replace hm : mK4_hasPartOf_B2 fn fse v1 (mK4_hasPartOf_A2) (mK4_hasPartOf_L2 fn fse v1 (mK4_hasPartOf_A2) n2) i2l2 = some r0 := hm
      unfold mK4_hasPartOf_B2 at hm
      refine lv_iload_n hx hb dK4_hasPartOf_2 rfl (lv_at hl 0 rfl) ?_
      refine lv_aload_n hx hb dK4_hasPartOf_3 rfl (lv_at hl 1 rfl) ?_
      refine va_get (D := D) (ci := 4) (v := .int fn) (C := RK4) (T := TK4) (N := 3) hx hb hts inK4 hown hK hP 0 rfl rfl 2 (by decide) (hts _ wdt1_102) (fun _ h9 => h9) rfl dK4_hasPartOf_4 ?_
      refine lv_icmp_ge (tgt := 31) hx hb dK4_hasPartOf_7 (by decide) (fun hc => ?_) (fun hc => ?_)
      · replace hm := ift hm hc
        exact lx2  _ _ _ hm hP hD hS (lv_sub hl [] rfl)
      · replace hm := iff_ hm hc
        refine lv_aload_n hx hb dK4_hasPartOf_10 rfl (lv_at hl 1 rfl) ?_
        refine va_get (D := D) (ci := 4) (v := .ref fa1) (C := RK4) (T := TK4) (N := 3) hx hb hts inK4 hown hK hP 0 rfl rfl 0 (by decide) (hts _ wdt1_100) (fun _ h9 => h9) rfl dK4_hasPartOf_11 ?_
        refine lv_iload_n hx hb dK4_hasPartOf_14 rfl (lv_at hl 0 rfl) ?_
        obtain ⟨x1, ex1, hm⟩ := bd1_s hm
        obtain ⟨hix1, ex1⟩ := rd_s ex1
        refine va_iald hx hb hK hP 1 0 rfl rfl hix1 dK4_hasPartOf_15 ?_
        refine topi ex1 ?_
        refine lv_iload_n hx hb dK4_hasPartOf_16 rfl (lv_at hl 2 rfl) ?_
        refine lv_iconst (v := (-1)) hx hb dK4_hasPartOf_17 (by decide) ?_
        refine lv_ixor hx hb dK4_hasPartOf_18 ?_
        refine lv_iand hx hb dK4_hasPartOf_19 ?_
        refine lv_if_ne (tgt := 25) hx hb dK4_hasPartOf_20 (by decide) (fun hc => ?_) (fun hc => ?_)
        · replace hm := iff_ hm hc
          obtain ⟨x2, ex2, hm⟩ := bd1_s hm
          refine lv_iinc (v := x2) (lv' := [(2, .int x2), (0, .ref fa), (1, .int v1)]) hx hb dK4_hasPartOf_25 hl (k := 0) rfl (by rw [← Option.some.inj ex2]; rfl) (by decide) rfl (fun ls hl => ?_)
          refine lv_goto (tgt := 2) hx hb dK4_hasPartOf_28 (by decide) ?_
          exact ih2 x2 _ _ _ hm hP hD hS (lv_sub hl [0, 1, 2] rfl)
        · replace hm := ift hm hc
          refine lv_iconst (v := 1) hx hb dK4_hasPartOf_23 (by decide) ?_
          replace hm := Option.some.inj hm
          subst hm
          exact k_retz hx hb hr hlocks rfl hP hD hS dK4_hasPartOf_24
  exact lp2 5000 0 _ _ _ hm hP hD hS (lv_sub hl [0, 1, 2] rfl)
def mK1_copyFrom (tso : Int32) (tob : Nat → Int32) (tme : Nat → Int32) (uso : Int32) (uob : Nat → Int32) (ume : Nat → Int32) : Option (Int32 × (Nat → Int32) × (Nat → Int32)) :=
  bd1 (some (va_cpy uob tob 0 0 72)) fun x1 => bd1 (some (va_cpy ume tme 0 0 12)) fun x2 => bd1 (bz uso) fun x3 => some (x3, x1, x2)
abbrev rmK1_copyFrom : Room := { frames := 1, cells := 0, slots := 0, locals := 60 }
set_option maxHeartbeats 4000000 in
set_option maxRecDepth 100000 in
theorem kK1_copyFrom (l : Launch) (D : va_G) (cI cZ cB cC : ClassId) (sz : Nat) (ta : Nat) (ta1 : Nat) (ta2 : Nat) (ta3 : Nat) (ua : Nat) (ua1 : Nat) (ua2 : Nat) (ua3 : Nat) (tso : Int32) (tob : Nat → Int32) (tme : Nat → Int32) (twi : Nat → Int32) (uso : Int32) (uob : Nat → Int32) (ume : Nat → Int32) (uwi : Nat → Int32) (tso_r : Int32) (tob_r : Nat → Int32) (tme_r : Nat → Int32) (hm : mK1_copyFrom tso tob tme uso uob ume = some (tso_r, tob_r, tme_r)) : Met l yK1_copyFrom wsK1_copyFrom rmK1_copyFrom (va_Pc [.ref ta, .ref ua] (Pr D (tyL cI cZ cB cC) sz (wTT ta ta1 ta2 ta3 ua ua1 ua2 ua3 cI cZ cB cC tso tob tme twi uso uob ume uwi))) (QV D (va_A (wTT ta ta1 ta2 ta3 ua ua1 ua2 ua3 cI cZ cB cC tso tob tme twi uso uob ume uwi) sz) (wTT ta ta1 ta2 ta3 ua ua1 ua2 ua3 cI cZ cB cC tso_r tob_r tme_r twi uso uob ume uwi)) 0 0 (va_A (wTT ta ta1 ta2 ta3 ua ua1 ua2 ua3 cI cZ cB cC tso tob tme twi uso uob ume uwi) sz) := by
  refine Met.ofW (cc := cK1_copyFrom) (maxL := 2) (ret := none) (by decide) rfl ?_
  intro p e s m args below meth c s₁ B hml hv
  obtain ⟨rfl, hsz, hP, hK, hD0, hN⟩ := hv
  have hx := B.exec
  have hb := B.bytes
  have hr := B.returns
  have hts := htsA (atoms_spec (ws := wsK1_copyFrom) B.pre)
  have hown : s.vm.findClass RK1 = some m.cls := findClass_of_methodNamed B.named
  have hlocks := B.notSynchronized
  subst hsz
  have hD := hD0.self (sz := s.heap.size)
  generalize hAe : va_A (wTT ta ta1 ta2 ta3 ua ua1 ua2 ua3 cI cZ cB cC tso tob tme twi uso uob ume uwi) s.heap.size = A at hD ⊢
  have hA : ∀ q : Nat, s.heap.size ≤ q → A q := fun q h => by rw [← hAe]; exact Or.inr h
  refine kstart (A := A) hP (fun H hP hS => ?_)
  have hl := lv_entry ([.ref ta, .ref ua]) (n := 2) (Nat.le_of_ble_eq_true rfl)
  rw [lg_entry_eq]
  generalize (lg_sl ([.ref ta, .ref ua]) ++ List.replicate (2 - (lg_sl ([.ref ta, .ref ua])).length) Slot.unset).toArray = ls at hl ⊢
  have hl : lv_has ls 2 [(0, .ref ta), (1, .ref ua)] := hl
  unfold mK1_copyFrom at hm
  refine lv_aload_n hx hb dK1_copyFrom_0 rfl (lv_at hl 1 rfl) ?_
  refine va_get (D := D) (ci := 1) (v := .ref ua1) (C := RK1) (T := TK1) (N := 4) hx hb hts inK1 hown hK hP 4 rfl rfl 0 (by decide) (hts _ wdt1_32) (fun _ h9 => h9) rfl dK1_copyFrom_1 ?_
  refine lv_iconst (v := 0) hx hb dK1_copyFrom_4 (by decide) ?_
  refine lv_aload_n hx hb dK1_copyFrom_5 rfl (lv_at hl 0 rfl) ?_
  refine va_get (D := D) (ci := 1) (v := .ref ta1) (C := RK1) (T := TK1) (N := 4) hx hb hts inK1 hown hK hP 0 rfl rfl 0 (by decide) (hts _ wdt1_32) (fun _ h9 => h9) rfl dK1_copyFrom_6 ?_
  refine lv_iconst (v := 0) hx hb dK1_copyFrom_9 (by decide) ?_
  refine lv_bipush (v := 72) hx hb dK1_copyFrom_10 (by decide) ?_
  obtain ⟨x1, ex1, hm⟩ := bd1_s hm
  refine va_copyi hx hb (by rw [hml]; exact hl.1.symm) hown (hts _ wdt2_139) (hts _ wdt2_141) (hts _ wdt2_140) (hts _ wdt1_14) hK hP hD hS 5 1 0 0 rfl rfl rfl rfl rfl (by decide) (by decide) (by decide) (by decide) (by decide) (fun _ _ => rfl) (Nat.le_of_ble_eq_true rfl) (by decide) dK1_copyFrom_12 (fun H locs hP hD hS => ?_)
  have hP : va_P D vwCl (wTT ta ta1 ta2 ta3 ua ua1 ua2 ua3 cI cZ cB cC tso x1 tme twi uso uob ume uwi) H := by rw [← Option.some.inj ex1]; exact hP
  have hD : va_D A (wTT ta ta1 ta2 ta3 ua ua1 ua2 ua3 cI cZ cB cC tso x1 tme twi uso uob ume uwi) := by rw [← Option.some.inj ex1]; exact hD
  refine lv_aload_n hx hb dK1_copyFrom_15 rfl (lv_at hl 1 rfl) ?_
  refine va_get (D := D) (ci := 1) (v := .ref ua2) (C := RK1) (T := TK1) (N := 4) hx hb hts inK1 hown hK hP 4 rfl rfl 1 (by decide) (hts _ wdt1_33) (fun _ h9 => h9) rfl dK1_copyFrom_16 ?_
  refine lv_iconst (v := 0) hx hb dK1_copyFrom_19 (by decide) ?_
  refine lv_aload_n hx hb dK1_copyFrom_20 rfl (lv_at hl 0 rfl) ?_
  refine va_get (D := D) (ci := 1) (v := .ref ta2) (C := RK1) (T := TK1) (N := 4) hx hb hts inK1 hown hK hP 0 rfl rfl 1 (by decide) (hts _ wdt1_33) (fun _ h9 => h9) rfl dK1_copyFrom_21 ?_
  refine lv_iconst (v := 0) hx hb dK1_copyFrom_24 (by decide) ?_
  refine lv_bipush (v := 12) hx hb dK1_copyFrom_25 (by decide) ?_
  obtain ⟨x2, ex2, hm⟩ := bd1_s hm
  refine va_copyi hx hb (by rw [hml]; exact hl.1.symm) hown (hts _ wdt2_139) (hts _ wdt2_141) (hts _ wdt2_140) (hts _ wdt1_14) hK hP hD hS 6 2 0 0 rfl rfl rfl rfl rfl (by decide) (by decide) (by decide) (by decide) (by decide) (fun _ _ => rfl) (Nat.le_of_ble_eq_true rfl) (by decide) dK1_copyFrom_27 (fun H locs hP hD hS => ?_)
  have hP : va_P D vwCl (wTT ta ta1 ta2 ta3 ua ua1 ua2 ua3 cI cZ cB cC tso x1 x2 twi uso uob ume uwi) H := by rw [← Option.some.inj ex2]; exact hP
  have hD : va_D A (wTT ta ta1 ta2 ta3 ua ua1 ua2 ua3 cI cZ cB cC tso x1 x2 twi uso uob ume uwi) := by rw [← Option.some.inj ex2]; exact hD
  refine lv_aload_n hx hb dK1_copyFrom_30 rfl (lv_at hl 0 rfl) ?_
  refine lv_aload_n hx hb dK1_copyFrom_31 rfl (lv_at hl 1 rfl) ?_
  refine va_get (D := D) (ci := 1) (v := .int uso) (C := RK1) (T := TK1) (N := 4) hx hb hts inK1 hown hK hP 4 rfl rfl 3 (by decide) (hts _ wdt1_35) (fun _ h9 => h9) rfl dK1_copyFrom_32 ?_
  obtain ⟨x3, ex3, hm⟩ := bd1_s hm
  obtain ⟨eex3, hzx3⟩ := bz_s ex3
  refine topi eex3 ?_
  refine va_put (D := D) (ci := 1) (v := .int x3) (ty := .boolean) (C := RK1) (T := TK1) (N := 4) hx hb hts inK1 tyK1 tyK1_ok nmK1 hown hK hP hD hS 0 rfl rfl 3 (by decide) (hts _ wdt1_35) (fun _ h9 => h9) rfl (by decide +kernel) (bz_n hzx3) (bz_f hzx3) (Nat.le_of_ble_eq_true rfl) dK1_copyFrom_35 (fun H locs hP hD hS => ?_)
  have hP : va_P D vwCl (wTT ta ta1 ta2 ta3 ua ua1 ua2 ua3 cI cZ cB cC x3 x1 x2 twi uso uob ume uwi) H := hP
  have hD : va_D A (wTT ta ta1 ta2 ta3 ua ua1 ua2 ua3 cI cZ cB cC x3 x1 x2 twi uso uob ume uwi) := hD
  replace hm := Option.some.inj hm
  simp only [Prod.mk.injEq] at hm
  obtain ⟨rfl, rfl, rfl⟩ := hm
  exact k_retv hx hb hr hlocks hP hD hS dK1_copyFrom_38
