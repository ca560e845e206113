def mK3_doAll_A2 (tsox2 : Int32) (tobx2 : Nat → Int32) : Option (Int32 × (Nat → Int32)) :=
  some (tsox2, tobx2)
def mK3_doAll_B2 (cn : Int32) (cpu : Nat → Int32) (cco : Nat → Int32) (v2 : Int32) (kx2 : Int32 → (Nat → Int32) → (Option (Int32 × (Nat → Int32)))) (rc2 : Int32 → Int32 → (Nat → Int32) → (Option (Int32 × (Nat → Int32)))) (i3l2 : Int32) (tsol2 : Int32) (tobl2 : Nat → Int32) : Option (Int32 × (Nat → Int32)) :=
  if cn ≤ i3l2 then
  (kx2 tsol2 tobl2)
  else
  (bd1 (mK0_hasMember v2 i3l2) fun x1 => if x1 = 0 then
    (bd1 (some (i3l2 + 1)) fun x3 => rc2 x3 tsol2 tobl2)
    else
    (bd1 (rd cpu 12 i3l2) fun x4 => bd1 (rd cco 12 i3l2) fun x5 => bd2 (mK1_alter tsol2 tobl2 x4 x5) fun x6 x7 => bd1 (some (i3l2 + 1)) fun x9 => rc2 x9 x6 x7))
def mK3_doAll_L2 (cn : Int32) (cpu : Nat → Int32) (cco : Nat → Int32) (v2 : Int32) (kx2 : Int32 → (Nat → Int32) → (Option (Int32 × (Nat → Int32)))) : Nat → Int32 → Int32 → (Nat → Int32) → (Option (Int32 × (Nat → Int32)))
  | 0, _, _, _ => none
  | n + 1, i3l2, tsol2, tobl2 => mK3_doAll_B2 cn cpu cco v2 kx2 (mK3_doAll_L2 cn cpu cco v2 kx2 n) i3l2 tsol2 tobl2
def mK3_doAll (cn : Int32) (cpu : Nat → Int32) (cco : Nat → Int32) (tso : Int32) (tob : Nat → Int32) (v2 : Int32) : Option (Int32 × (Nat → Int32)) :=
  mK3_doAll_L2 cn cpu cco v2 (mK3_doAll_A2) 5000 0 tso tob
abbrev rmK3_doAll : Room := { frames := 1, cells := 0, slots := 0, locals := 25 }
set_option maxHeartbeats 4000000 in
set_option maxRecDepth 100000 in
theorem kK3_doAll (l : Launch) (D : va_G) (cI cZ cB cC : ClassId) (sz : Nat) (ca : Nat) (ca1 : Nat) (ca2 : Nat) (ca3 : Nat) (ta : Nat) (ta1 : Nat) (ta2 : Nat) (ta3 : Nat) (cn : Int32) (cpu : Nat → Int32) (cco : Nat → Int32) (cwe : Nat → Int32) (tso : Int32) (tob : Nat → Int32) (tme : Nat → Int32) (twi : Nat → Int32) (v2 : Int32) (tso_r : Int32) (tob_r : Nat → Int32) (hm : mK3_doAll cn cpu cco tso tob v2 = some (tso_r, tob_r)) : Met l yK3_doAll wsK3_doAll rmK3_doAll (va_Pc [.ref ca, .ref ta, .int v2] (Pr D (tyL cI cZ cB cC) sz (wCT ca ca1 ca2 ca3 ta ta1 ta2 ta3 cI cZ cB cC cn cpu cco cwe tso tob tme twi))) (QV D (va_A (wCT ca ca1 ca2 ca3 ta ta1 ta2 ta3 cI cZ cB cC cn cpu cco cwe tso tob tme twi) sz) (wCT ca ca1 ca2 ca3 ta ta1 ta2 ta3 cI cZ cB cC cn cpu cco cwe tso_r tob_r tme twi)) 0 0 (va_A (wCT ca ca1 ca2 ca3 ta ta1 ta2 ta3 cI cZ cB cC cn cpu cco cwe tso tob tme twi) sz) := by
  refine Met.ofW (cc := cK3_doAll) (maxL := 4) (ret := none) (by decide) rfl ?_
  intro p e s m args below meth c s₁ B hml hv
  obtain ⟨rfl, hsz, hP, hK, hD0, hN⟩ := hv
  have hx := B.exec
  have hb := B.bytes
  have hr := B.returns
  have hts := htsA (atoms_spec (ws := wsK3_doAll) B.pre)
  have hown : s.vm.findClass RK3 = some m.cls := findClass_of_methodNamed B.named
  have hlocks := B.notSynchronized
  subst hsz
  have hD := hD0.self (sz := s.heap.size)
  generalize hAe : va_A (wCT ca ca1 ca2 ca3 ta ta1 ta2 ta3 cI cZ cB cC cn cpu cco cwe tso tob tme twi) s.heap.size = A at hD ⊢
  have hA : ∀ q : Nat, s.heap.size ≤ q → A q := fun q h => by rw [← hAe]; exact Or.inr h
  refine kstart (A := A) hP (fun H hP hS => ?_)
  have hl := lv_entry ([.ref ca, .ref ta, .int v2]) (n := 4) (Nat.le_of_ble_eq_true rfl)
  rw [lg_entry_eq]
  generalize (lg_sl ([.ref ca, .ref ta, .int v2]) ++ List.replicate (4 - (lg_sl ([.ref ca, .ref ta, .int v2])).length) Slot.unset).toArray = ls at hl ⊢
  have hl : lv_has ls 4 [(0, .ref ca), (1, .ref ta), (2, .int v2)] := hl
  unfold mK3_doAll at hm
  refine lv_iconst (v := 0) hx hb dK3_doAll_0 (by decide) ?_
  refine lv_istore_n (lv' := [(3, .int 0), (0, .ref ca), (1, .ref ta), (2, .int v2)]) hx hb dK3_doAll_1 rfl hl (by decide) rfl (fun ls hl => ?_)
  have lx2 : ∀ (tsox2 : Int32) (tobx2 : Nat → Int32) (H : Heap) (locs : List Loc) (ls : Array Slot), mK3_doAll_A2 tsox2 tobx2 = some (tso_r, tob_r) → va_P D vwCl (wCT ca ca1 ca2 ca3 ta ta1 ta2 ta3 cI cZ cB cC cn cpu cco cwe tsox2 tobx2 tme twi) H → va_D A (wCT ca ca1 ca2 ca3 ta ta1 ta2 ta3 cI cZ cB cC cn cpu cco cwe tsox2 tobx2 tme twi) → va_S A s.heap H locs → lv_has ls 4 [] → W p l e (headSpec wsK3_doAll rmK3_doAll).room s m ([.ref ca, .ref ta, .int v2] : List Value).toArray below meth c H locs 0 0 (MQ below (QV D A (wCT ca ca1 ca2 ca3 ta ta1 ta2 ta3 cI cZ cB cC cn cpu cco cwe tso_r tob_r tme twi)) ([.ref ca, .ref ta, .int v2] : List Value).toArray s 0 0 A) (F0 m 40 ls []) := by
    intro tsox2 tobx2 H locs ls hm hP hD hS hl
    unfold mK3_doAll_A2 at hm
    replace hm := Option.some.inj hm
    simp only [Prod.mk.injEq] at hm
    obtain ⟨rfl, rfl⟩ := hm
    exact k_retv hx hb hr hlocks hP hD hS dK3_doAll_40
  have lp2 : ∀ (n2 : Nat) (i3l2 : Int32) (tsol2 : Int32) (tobl2 : Nat → Int32) (H : Heap) (locs : List Loc) (ls : Array Slot), mK3_doAll_L2 cn cpu cco v2 (mK3_doAll_A2) n2 i3l2 tsol2 tobl2 = some (tso_r, tob_r) → va_P D vwCl (wCT ca ca1 ca2 ca3 ta ta1 ta2 ta3 cI cZ cB cC cn cpu cco cwe tsol2 tobl2 tme twi) H → va_D A (wCT ca ca1 ca2 ca3 ta ta1 ta2 ta3 cI cZ cB cC cn cpu cco cwe tsol2 tobl2 tme twi) → va_S A s.heap H locs → lv_has ls 4 [(3, .int i3l2), (0, .ref ca), (1, .ref ta), (2, .int v2)] → W p l e (headSpec wsK3_doAll rmK3_doAll).room s m ([.ref ca, .ref ta, .int v2] : List Value).toArray below meth c H locs 0 0 (MQ below (QV D A (wCT ca ca1 ca2 ca3 ta ta1 ta2 ta3 cI cZ cB cC cn cpu cco cwe tso_r tob_r tme twi)) ([.ref ca, .ref ta, .int v2] : List Value).toArray s 0 0 A) (F0 m 2 ls []) := by
    intro n2
    induction n2 with
    | zero => intro i3l2 tsol2 tobl2 H locs ls hm; exact nomatch (show none = _ from hm)
    | succ n2 ih2 =>
      intro i3l2 tsol2 tobl2 H locs ls hm hP hD hS hl
      replace hm : mK3_doAll_B2 cn cpu cco v2 (mK3_doAll_A2) (mK3_doAll_L2 cn cpu cco v2 (mK3_doAll_A2) n2) i3l2 tsol2 tobl2 = some (tso_r, tob_r) := hm
      unfold mK3_doAll_B2 at hm
      refine lv_iload_n hx hb dK3_doAll_2 rfl (lv_at hl 0 rfl) ?_
      refine lv_aload_n hx hb dK3_doAll_3 rfl (lv_at hl 1 rfl) ?_
      refine va_get (D := D) (ci := 3) (v := .int cn) (C := RK3) (T := TK3) (N := 4) hx hb hts inK3 hown hK hP 0 rfl rfl 3 (by decide) (hts _ wdt1_82) (fun _ h9 => h9) rfl dK3_doAll_4 ?_
      refine lv_icmp_ge (tgt := 40) hx hb dK3_doAll_7 (by decide) (fun hc => ?_) (fun hc => ?_)
      · replace hm := ift hm hc
        exact lx2 tsol2 tobl2 _ _ _ hm hP hD hS (lv_sub hl [] rfl)
      · replace hm := iff_ hm hc
        refine lv_iload_n hx hb dK3_doAll_10 rfl (lv_at hl 3 rfl) ?_
        refine lv_iload_n hx hb dK3_doAll_11 rfl (lv_at hl 0 rfl) ?_
        obtain ⟨x1, ec2, hm⟩ := bd1_s hm
        have hPc : va_P D vwCl [] H := va_P0
        have hDc : va_D A [] := va_D0
        refine k_calli0 (va_runSN (As := [.int v2, .int i3l2]) (rest := []) ⟨hx, hb, hml, hown, hts⟩ (kK0_hasMember l D cI cZ cB cC H.size v2 i3l2 x1 ec2) ⟨va_cnB 2 hts gkK0_hasMember rfl rfl rfl (nwM hN 10 rfl) (hts _ wdt1_1) (by decide +kernel) ⟨Nat.le_of_ble_eq_true rfl, Nat.le_of_ble_eq_true rfl⟩, (hts _ wdt1_200), trivial⟩ ⟨Pr_blind, fun U hU hW => ⟨rfl, Pr_at hK hN hPc hDc hU hW⟩⟩ rfl rfl hl.1 rfl (lv_room (Nat.le_of_ble_eq_true rfl)) dK3_doAll_12 ⟨Nat.le_of_ble_eq_true rfl, Nat.le_of_ble_eq_true rfl⟩) hP hD hS hA (fun H locs hP hD hS => ?_)
        refine lv_if_eq (tgt := 34) hx hb dK3_doAll_15 (by decide) (fun hc => ?_) (fun hc => ?_)
        · replace hm := ift hm hc
          obtain ⟨x3, ex3, hm⟩ := bd1_s hm
          refine lv_iinc (v := x3) (lv' := [(3, .int x3), (0, .ref ca), (1, .ref ta), (2, .int v2)]) hx hb dK3_doAll_34 hl (k := 0) rfl (by rw [← Option.some.inj ex3]; rfl) (by decide) rfl (fun ls hl => ?_)
          refine lv_goto (tgt := 2) hx hb dK3_doAll_37 (by decide) ?_
          exact ih2 x3 tsol2 tobl2 _ _ _ hm hP hD hS (lv_sub hl [0, 1, 2, 3] rfl)
        · replace hm := iff_ hm hc
          refine lv_aload_n hx hb dK3_doAll_18 rfl (lv_at hl 2 rfl) ?_
          refine lv_aload_n hx hb dK3_doAll_19 rfl (lv_at hl 1 rfl) ?_
          refine va_get (D := D) (ci := 3) (v := .ref ca1) (C := RK3) (T := TK3) (N := 4) hx hb hts inK3 hown hK hP 0 rfl rfl 0 (by decide) (hts _ wdt1_79) (fun _ h9 => h9) rfl dK3_doAll_20 ?_
          refine lv_iload_n hx hb dK3_doAll_23 rfl (lv_at hl 0 rfl) ?_
          obtain ⟨x4, ex4, hm⟩ := bd1_s hm
          obtain ⟨hix4, ex4⟩ := rd_s ex4
          refine va_zald hx hb hK hP 1 1 rfl rfl hix4 dK3_doAll_24 ?_
          refine topi ex4 ?_
          refine lv_aload_n hx hb dK3_doAll_25 rfl (lv_at hl 1 rfl) ?_
          refine va_get (D := D) (ci := 3) (v := .ref ca2) (C := RK3) (T := TK3) (N := 4) hx hb hts inK3 hown hK hP 0 rfl rfl 1 (by decide) (hts _ wdt1_80) (fun _ h9 => h9) rfl dK3_doAll_26 ?_
          refine lv_iload_n hx hb dK3_doAll_29 rfl (lv_at hl 0 rfl) ?_
          obtain ⟨x5, ex5, hm⟩ := bd1_s hm
          obtain ⟨hix5, ex5⟩ := rd_s ex5
          refine va_iald hx hb hK hP 2 0 rfl rfl hix5 dK3_doAll_30 ?_
          refine topi ex5 ?_
          obtain ⟨x6, x7, ec8, hm⟩ := bd2_s hm
          have hPc := hP.sub (ws' := (wT ta ta1 ta2 ta3 cI cZ cB cC tsol2 tobl2 tme twi)) [4, 5, 6, 7] rfl
          have hDc := hD.sub (ws' := (wT ta ta1 ta2 ta3 cI cZ cB cC tsol2 tobl2 tme twi)) [4, 5, 6, 7] (by decide) rfl
          refine k_callv (wr := [(ca, .inr (3, [.ref ca1, .ref ca2, .ref ca3, .int cn])), (ca1, .inl (cZ, 12, .inl cpu)), (ca2, .inl (cI, 12, .inl cco)), (ca3, .inl (cI, 12, .inl cwe))]) (w1 := (wT ta ta1 ta2 ta3 cI cZ cB cC x6 x7 tme twi)) (ws' := (wCT ca ca1 ca2 ca3 ta ta1 ta2 ta3 cI cZ cB cC cn cpu cco cwe x6 x7 tme twi)) (va_runV (As := [.int x4, .int x5]) (rest := []) ⟨hx, hb, hml, hown, hts⟩ (kK1_alter l D cI cZ cB cC H.size ta ta1 ta2 ta3 tsol2 tobl2 tme twi x4 x5 x6 x7 ec8) (cwV 2 hts (gdV wdt2_147 wdt1_206 wdt1_207 wdt1_2 gkK1_alter) rfl rfl rfl (by decide +kernel) ⟨Nat.le_of_ble_eq_true rfl, Nat.le_of_ble_eq_true rfl⟩) ⟨Pr_blind, va_recv hK hPc (ci := 1) (q0 := 0) rfl rfl, fun U hU hW => ⟨rfl, Pr_at hK hN hPc hDc hU hW⟩⟩ rfl rfl hl.1 rfl (lv_room (Nat.le_of_ble_eq_true rfl)) dK3_doAll_31 ⟨Nat.le_of_ble_eq_true rfl, Nat.le_of_ble_eq_true rfl⟩) hP hD hS hA [4, 5, 6, 7] [0, 1, 2, 3] [0, 1, 2, 3, 4, 5, 6, 7] rfl rfl (by decide) (by decide) (by decide) rfl (fun H locs hP hD hS => ?_)
          obtain ⟨x9, ex9, hm⟩ := bd1_s hm
          refine lv_iinc (v := x9) (lv' := [(3, .int x9), (0, .ref ca), (1, .ref ta), (2, .int v2)]) hx hb dK3_doAll_34 hl (k := 0) rfl (by rw [← Option.some.inj ex9]; rfl) (by decide) rfl (fun ls hl => ?_)
          refine lv_goto (tgt := 2) hx hb dK3_doAll_37 (by decide) ?_
          exact ih2 x9 x6 x7 _ _ _ hm hP hD hS (lv_sub hl [0, 1, 2, 3] rfl)
  exact lp2 5000 0 tso tob _ _ _ hm hP hD hS (lv_sub hl [0, 1, 2, 3] rfl)
def mK0_tryOut (trso : Int32) (trob : Nat → Int32) (trme : Nat → Int32) (tiso : Int32) (tiob : Nat → Int32) (time : Nat → Int32) (chn : Int32) (chpu : Nat → Int32) (chco : Nat → Int32) (v1 : Int32) : Option (Int32 × (Nat → Int32) × (Nat → Int32)) :=
  bd3 (mK1_copyFrom tiso tiob time trso trob trme) fun x1 x2 x3 => bd2 (mK3_doAll chn chpu chco x1 x2 v1) fun x5 x6 => bd2 (mK1_sortIntoClasses x5 x6 x3) fun x8 x9 => some (x8, x6, x9)
abbrev rmK0_tryOut : Room := { frames := 4, cells := 0, slots := 0, locals := 89 }
set_option maxHeartbeats 4000000 in
set_option maxRecDepth 100000 in
theorem kK0_tryOut (l : Launch) (D : va_G) (cI cZ cB cC : ClassId) (sz : Nat) (oa : Nat) (tra : Nat) (tra1 : Nat) (tra2 : Nat) (tra3 : Nat) (tia : Nat) (tia1 : Nat) (tia2 : Nat) (tia3 : Nat) (rua : Nat) (rua1 : Nat) (rua2 : Nat) (rua3 : Nat) (rua4 : Nat) (cha : Nat) (cha1 : Nat) (cha2 : Nat) (cha3 : Nat) (foa : Nat) (foa1 : Nat) (foa2 : Nat) (sba : Nat) (ocs : Int32) (oal : Int32) (olt : Int32) (ols : Int32) (trso : Int32) (trob : Nat → Int32) (trme : Nat → Int32) (trwi : Nat → Int32) (tiso : Int32) (tiob : Nat → Int32) (time : Nat → Int32) (tiwi : Nat → Int32) (run : Int32) (ruki : Nat → Int32) (ruta : Nat → Int32) (rupr : Nat → Int32) (runu : Nat → Int32) (chn : Int32) (chpu : Nat → Int32) (chco : Nat → Int32) (chwe : Nat → Int32) (fon : Int32) (fose : Nat → Int32) (fosu : Nat → Int32) (v1 : Int32) (tiso_r : Int32) (tiob_r : Nat → Int32) (time_r : Nat → Int32) (hm : mK0_tryOut trso trob trme tiso tiob time chn chpu chco v1 = some (tiso_r, tiob_r, time_r)) : Met l yK0_tryOut wsK0_tryOut rmK0_tryOut (va_Pc [.ref oa, .int v1] (Pr D (tyL cI cZ cB cC) sz (wM oa tra tra1 tra2 tra3 tia tia1 tia2 tia3 rua rua1 rua2 rua3 rua4 cha cha1 cha2 cha3 foa foa1 foa2 sba cI cZ cB cC ocs oal olt ols trso trob trme trwi tiso tiob time tiwi run ruki ruta rupr runu chn chpu chco chwe fon fose fosu))) (QV D (va_A (wM oa tra tra1 tra2 tra3 tia tia1 tia2 tia3 rua rua1 rua2 rua3 rua4 cha cha1 cha2 cha3 foa foa1 foa2 sba cI cZ cB cC ocs oal olt ols trso trob trme trwi tiso tiob time tiwi run ruki ruta rupr runu chn chpu chco chwe fon fose fosu) sz) (wM oa tra tra1 tra2 tra3 tia tia1 tia2 tia3 rua rua1 rua2 rua3 rua4 cha cha1 cha2 cha3 foa foa1 foa2 sba cI cZ cB cC ocs oal olt ols trso trob trme trwi tiso_r tiob_r time_r tiwi run ruki ruta rupr runu chn chpu chco chwe fon fose fosu)) 0 0 (va_A (wM oa tra tra1 tra2 tra3 tia tia1 tia2 tia3 rua rua1 rua2 rua3 rua4 cha cha1 cha2 cha3 foa foa1 foa2 sba cI cZ cB cC ocs oal olt ols trso trob trme trwi tiso tiob time tiwi run ruki ruta rupr runu chn chpu chco chwe fon fose fosu) sz) := by
  refine Met.ofW (cc := cK0_tryOut) (maxL := 2) (ret := none) (by decide) rfl ?_
  intro p e s m args below meth c s₁ B hml hv
  obtain ⟨rfl, hsz, hP, hK, hD0, hN⟩ := hv
  have hx := B.exec
  have hb := B.bytes
  have hr := B.returns
  have hts := htsA (atoms_spec (ws := wsK0_tryOut) B.pre)
  have hown : s.vm.findClass RK0 = some m.cls := findClass_of_methodNamed B.named
  have hlocks := B.notSynchronized
  subst hsz
  have hD := hD0.self (sz := s.heap.size)
  generalize hAe : va_A (wM oa tra tra1 tra2 tra3 tia tia1 tia2 tia3 rua rua1 rua2 rua3 rua4 cha cha1 cha2 cha3 foa foa1 foa2 sba cI cZ cB cC ocs oal olt ols trso trob trme trwi tiso tiob time tiwi run ruki ruta rupr runu chn chpu chco chwe fon fose fosu) s.heap.size = A at hD ⊢
  have hA : ∀ q : Nat, s.heap.size ≤ q → A q := fun q h => by rw [← hAe]; exact Or.inr h
  refine kstart (A := A) hP (fun H hP hS => ?_)
  have hl := lv_entry ([.ref oa, .int v1]) (n := 2) (Nat.le_of_ble_eq_true rfl)
  rw [lg_entry_eq]
  generalize (lg_sl ([.ref oa, .int v1]) ++ List.replicate (2 - (lg_sl ([.ref oa, .int v1])).length) Slot.unset).toArray = ls at hl ⊢
  have hl : lv_has ls 2 [(0, .ref oa), (1, .int v1)] := hl
  unfold mK0_tryOut at hm
  refine lv_aload_n hx hb dK0_tryOut_0 rfl (lv_at hl 0 rfl) ?_
  refine va_get (D := D) (ci := 0) (v := .ref tia) (C := RK0) (T := TK0) (N := 10) hx hb hts inK0 hown hK hP 0 rfl rfl 1 (by decide) (hts _ wdt1_144) (fun _ h9 => h9) rfl dK0_tryOut_1 ?_
  refine lv_aload_n hx hb dK0_tryOut_4 rfl (lv_at hl 0 rfl) ?_
  refine va_get (D := D) (ci := 0) (v := .ref tra) (C := RK0) (T := TK0) (N := 10) hx hb hts inK0 hown hK hP 0 rfl rfl 0 (by decide) (hts _ wdt1_143) (fun _ h9 => h9) rfl dK0_tryOut_5 ?_
  obtain ⟨x1, x2, x3, ec4, hm⟩ := bd3_s hm
  have hPc := hP.sub (ws' := (wTT tia tia1 tia2 tia3 tra tra1 tra2 tra3 cI cZ cB cC tiso tiob time tiwi trso trob trme trwi)) [5, 6, 7, 8, 1, 2, 3, 4] rfl
  have hDc := hD.sub (ws' := (wTT tia tia1 tia2 tia3 tra tra1 tra2 tra3 cI cZ cB cC tiso tiob time tiwi trso trob trme trwi)) [5, 6, 7, 8, 1, 2, 3, 4] (by decide) rfl
  refine k_callv (wr := [(oa, .inr (0, [.ref tra, .ref tia, .ref rua, .ref cha, .ref foa, .ref sba, .int ocs, .int oal, .int olt, .int ols])), (rua, .inr (2, [.ref rua1, .ref rua2, .ref rua3, .ref rua4, .int run])), (rua1, .inl (cI, 10, .inl ruki)), (rua2, .inl (cI, 10, .inl ruta)), (rua3, .inl (cI, 10, .inl rupr)), (rua4, .inl (cI, 10, .inl runu)), (cha, .inr (3, [.ref cha1, .ref cha2, .ref cha3, .int chn])), (cha1, .inl (cZ, 12, .inl chpu)), (cha2, .inl (cI, 12, .inl chco)), (cha3, .inl (cI, 12, .inl chwe)), (foa, .inr (4, [.ref foa1, .ref foa2, .int fon])), (foa1, .inl (cI, 30, .inl fose)), (foa2, .inl (cI, 30, .inl fosu))]) (w1 := (wTT tia tia1 tia2 tia3 tra tra1 tra2 tra3 cI cZ cB cC x1 x2 x3 tiwi trso trob trme trwi)) (ws' := (wM oa tra tra1 tra2 tra3 tia tia1 tia2 tia3 rua rua1 rua2 rua3 rua4 cha cha1 cha2 cha3 foa foa1 foa2 sba cI cZ cB cC ocs oal olt ols trso trob trme trwi x1 x2 x3 tiwi run ruki ruta rupr runu chn chpu chco chwe fon fose fosu)) (va_runV (As := [.ref tra]) (rest := []) ⟨hx, hb, hml, hown, hts⟩ (kK1_copyFrom l D cI cZ cB cC H.size tia tia1 tia2 tia3 tra tra1 tra2 tra3 tiso tiob time tiwi trso trob trme trwi x1 x2 x3 ec4) (cwV 1 hts (gdV wdt2_135 wdt2_136 wdt2_137 wdt1_2 gkK1_copyFrom) rfl rfl rfl (by decide +kernel) ⟨Nat.le_of_ble_eq_true rfl, Nat.le_of_ble_eq_true rfl⟩) ⟨Pr_blind, va_recv hK hPc (ci := 1) (q0 := 0) rfl rfl, fun U hU hW => ⟨rfl, Pr_at hK hN hPc hDc hU hW⟩⟩ rfl rfl hl.1 rfl (lv_room (Nat.le_of_ble_eq_true rfl)) dK0_tryOut_8 ⟨Nat.le_of_ble_eq_true rfl, Nat.le_of_ble_eq_true rfl⟩) hP hD hS hA [5, 6, 7, 8, 1, 2, 3, 4] [0, 9, 10, 11, 12, 13, 14, 15, 16, 17, 18, 19, 20] [0, 17, 18, 19, 20, 13, 14, 15, 16, 1, 2, 3, 4, 5, 6, 7, 8, 9, 10, 11, 12] rfl rfl (by decide) (by decide) (by decide) rfl (fun H locs hP hD hS => ?_)
  refine lv_aload_n hx hb dK0_tryOut_11 rfl (lv_at hl 0 rfl) ?_
  refine va_get (D := D) (ci := 0) (v := .ref cha) (C := RK0) (T := TK0) (N := 10) hx hb hts inK0 hown hK hP 0 rfl rfl 3 (by decide) (hts _ wdt1_146) (fun _ h9 => h9) rfl dK0_tryOut_12 ?_
  refine lv_aload_n hx hb dK0_tryOut_15 rfl (lv_at hl 0 rfl) ?_
  refine va_get (D := D) (ci := 0) (v := .ref tia) (C := RK0) (T := TK0) (N := 10) hx hb hts inK0 hown hK hP 0 rfl rfl 1 (by decide) (hts _ wdt1_144) (fun _ h9 => h9) rfl dK0_tryOut_16 ?_
  refine lv_iload_n hx hb dK0_tryOut_19 rfl (lv_at hl 1 rfl) ?_
  obtain ⟨x5, x6, ec7, hm⟩ := bd2_s hm
  have hPc := hP.sub (ws' := (wCT cha cha1 cha2 cha3 tia tia1 tia2 tia3 cI cZ cB cC chn chpu chco chwe x1 x2 x3 tiwi)) [14, 15, 16, 17, 5, 6, 7, 8] rfl
  have hDc := hD.sub (ws' := (wCT cha cha1 cha2 cha3 tia tia1 tia2 tia3 cI cZ cB cC chn chpu chco chwe x1 x2 x3 tiwi)) [14, 15, 16, 17, 5, 6, 7, 8] (by decide) rfl
  refine k_callv (wr := [(oa, .inr (0, [.ref tra, .ref tia, .ref rua, .ref cha, .ref foa, .ref sba, .int ocs, .int oal, .int olt, .int ols])), (tra, .inr (1, [.ref tra1, .ref tra2, .ref tra3, .int trso])), (tra1, .inl (cI, 72, .inl trob)), (tra2, .inl (cI, 12, .inl trme)), (tra3, .inl (cI, 12, .inl trwi)), (rua, .inr (2, [.ref rua1, .ref rua2, .ref rua3, .ref rua4, .int run])), (rua1, .inl (cI, 10, .inl ruki)), (rua2, .inl (cI, 10, .inl ruta)), (rua3, .inl (cI, 10, .inl rupr)), (rua4, .inl (cI, 10, .inl runu)), (foa, .inr (4, [.ref foa1, .ref foa2, .int fon])), (foa1, .inl (cI, 30, .inl fose)), (foa2, .inl (cI, 30, .inl fosu))]) (w1 := (wCT cha cha1 cha2 cha3 tia tia1 tia2 tia3 cI cZ cB cC chn chpu chco chwe x5 x6 x3 tiwi)) (ws' := (wM oa tra tra1 tra2 tra3 tia tia1 tia2 tia3 rua rua1 rua2 rua3 rua4 cha cha1 cha2 cha3 foa foa1 foa2 sba cI cZ cB cC ocs oal olt ols trso trob trme trwi x5 x6 x3 tiwi run ruki ruta rupr runu chn chpu chco chwe fon fose fosu)) (va_runV (As := [.ref tia, .int v1]) (rest := []) ⟨hx, hb, hml, hown, hts⟩ (kK3_doAll l D cI cZ cB cC H.size cha cha1 cha2 cha3 tia tia1 tia2 tia3 chn chpu chco chwe x1 x2 x3 tiwi v1 x5 x6 ec7) (cwV 2 hts (gdV wdt2_142 wdt2_143 wdt2_144 wdt1_4 gkK3_doAll) rfl rfl rfl (by decide +kernel) ⟨Nat.le_of_ble_eq_true rfl, Nat.le_of_ble_eq_true rfl⟩) ⟨Pr_blind, va_recv hK hPc (ci := 3) (q0 := 0) rfl rfl, fun U hU hW => ⟨rfl, Pr_at hK hN hPc hDc hU hW⟩⟩ rfl rfl hl.1 rfl (lv_room (Nat.le_of_ble_eq_true rfl)) dK0_tryOut_20 ⟨Nat.le_of_ble_eq_true rfl, Nat.le_of_ble_eq_true rfl⟩) hP hD hS hA [14, 15, 16, 17, 5, 6, 7, 8] [0, 1, 2, 3, 4, 9, 10, 11, 12, 13, 18, 19, 20] [0, 1, 2, 3, 4, 17, 18, 19, 20, 5, 6, 7, 8, 9, 13, 14, 15, 16, 10, 11, 12] rfl rfl (by decide) (by decide) (by decide) rfl (fun H locs hP hD hS => ?_)
  refine lv_aload_n hx hb dK0_tryOut_23 rfl (lv_at hl 0 rfl) ?_
  refine va_get (D := D) (ci := 0) (v := .ref tia) (C := RK0) (T := TK0) (N := 10) hx hb hts inK0 hown hK hP 0 rfl rfl 1 (by decide) (hts _ wdt1_144) (fun _ h9 => h9) rfl dK0_tryOut_24 ?_
  obtain ⟨x8, x9, ec10, hm⟩ := bd2_s hm
  have hPc := hP.sub (ws' := (wT tia tia1 tia2 tia3 cI cZ cB cC x5 x6 x3 tiwi)) [5, 6, 7, 8] rfl
  have hDc := hD.sub (ws' := (wT tia tia1 tia2 tia3 cI cZ cB cC x5 x6 x3 tiwi)) [5, 6, 7, 8] (by decide) rfl
  refine k_callv (wr := [(oa, .inr (0, [.ref tra, .ref tia, .ref rua, .ref cha, .ref foa, .ref sba, .int ocs, .int oal, .int olt, .int ols])), (tra, .inr (1, [.ref tra1, .ref tra2, .ref tra3, .int trso])), (tra1, .inl (cI, 72, .inl trob)), (tra2, .inl (cI, 12, .inl trme)), (tra3, .inl (cI, 12, .inl trwi)), (rua, .inr (2, [.ref rua1, .ref rua2, .ref rua3, .ref rua4, .int run])), (rua1, .inl (cI, 10, .inl ruki)), (rua2, .inl (cI, 10, .inl ruta)), (rua3, .inl (cI, 10, .inl rupr)), (rua4, .inl (cI, 10, .inl runu)), (cha, .inr (3, [.ref cha1, .ref cha2, .ref cha3, .int chn])), (cha1, .inl (cZ, 12, .inl chpu)), (cha2, .inl (cI, 12, .inl chco)), (cha3, .inl (cI, 12, .inl chwe)), (foa, .inr (4, [.ref foa1, .ref foa2, .int fon])), (foa1, .inl (cI, 30, .inl fose)), (foa2, .inl (cI, 30, .inl fosu))]) (w1 := (wT tia tia1 tia2 tia3 cI cZ cB cC x8 x6 x9 tiwi)) (ws' := (wM oa tra tra1 tra2 tra3 tia tia1 tia2 tia3 rua rua1 rua2 rua3 rua4 cha cha1 cha2 cha3 foa foa1 foa2 sba cI cZ cB cC ocs oal olt ols trso trob trme trwi x8 x6 x9 tiwi run ruki ruta rupr runu chn chpu chco chwe fon fose fosu)) (va_runV (As := []) (rest := []) ⟨hx, hb, hml, hown, hts⟩ (kK1_sortIntoClasses l D cI cZ cB cC H.size tia tia1 tia2 tia3 x5 x6 x3 tiwi x8 x9 ec10) (cwV 0 hts (gdV wdt1_209 wdt1_210 wdt1_211 wdt1_2 gkK1_sortIntoClasses) rfl rfl rfl (by decide +kernel) ⟨Nat.le_of_ble_eq_true rfl, Nat.le_of_ble_eq_true rfl⟩) ⟨Pr_blind, va_recv hK hPc (ci := 1) (q0 := 0) rfl rfl, fun U hU hW => ⟨rfl, Pr_at hK hN hPc hDc hU hW⟩⟩ rfl rfl hl.1 rfl (lv_room (Nat.le_of_ble_eq_true rfl)) dK0_tryOut_27 ⟨Nat.le_of_ble_eq_true rfl, Nat.le_of_ble_eq_true rfl⟩) hP hD hS hA [5, 6, 7, 8] [0, 1, 2, 3, 4, 9, 10, 11, 12, 13, 14, 15, 16, 17, 18, 19, 20] [0, 1, 2, 3, 4, 17, 18, 19, 20, 5, 6, 7, 8, 9, 10, 11, 12, 13, 14, 15, 16] rfl rfl (by decide) (by decide) (by decide) rfl (fun H locs hP hD hS => ?_)
  replace hm := Option.some.inj hm
  simp only [Prod.mk.injEq] at hm
  obtain ⟨rfl, rfl, rfl⟩ := hm
  exact k_retv hx hb hr hlocks hP hD hS dK0_tryOut_30
def mK3_weightOf_A4 (i2x4 : Int32) : Option (Int32) :=
  some i2x4
def mK3_weightOf_B4 (cn : Int32) (cwe : Nat → Int32) (v1 : Int32) (kx4 : Int32 → Option (Int32)) (rc4 : Int32 → Int32 → Option (Int32)) (i2l4 : Int32) (i3l4 : Int32) : Option (Int32) :=
  if cn ≤ i3l4 then
  (kx4 i2l4)
  else
  (bd1 (mK0_hasMember v1 i3l4) fun x1 => if x1 = 0 then
    (bd1 (some (i3l4 + 1)) fun x3 => rc4 i2l4 x3)
    else
    (bd1 (rd cwe 12 i3l4) fun x4 => bd1 (some (i2l4 + x4)) fun x5 => bd1 (some (i3l4 + 1)) fun x6 => rc4 x5 x6))
def mK3_weightOf_L4 (cn : Int32) (cwe : Nat → Int32) (v1 : Int32) (kx4 : Int32 → Option (Int32)) : Nat → Int32 → Int32 → Option (Int32)
  | 0, _, _ => none
  | n + 1, i2l4, i3l4 => mK3_weightOf_B4 cn cwe v1 kx4 (mK3_weightOf_L4 cn cwe v1 kx4 n) i2l4 i3l4
def mK3_weightOf (cn : Int32) (cwe : Nat → Int32) (v1 : Int32) : Option (Int32) :=
  mK3_weightOf_L4 cn cwe v1 (mK3_weightOf_A4) 5000 0 0
abbrev rmK3_weightOf : Room := { frames := 1, cells := 0, slots := 0, locals := 21 }
set_option maxHeartbeats 4000000 in
set_option maxRecDepth 100000 in
theorem kK3_weightOf (l : Launch) (D : va_G) (cI cZ cB cC : ClassId) (sz : Nat) (ca : Nat) (ca1 : Nat) (ca2 : Nat) (ca3 : Nat) (cn : Int32) (cpu : Nat → Int32) (cco : Nat → Int32) (cwe : Nat → Int32) (v1 : Int32) (r0 : Int32) (hm : mK3_weightOf cn cwe v1 = some r0) : Met l yK3_weightOf wsK3_weightOf rmK3_weightOf (va_Pc [.ref ca, .int v1] (Pr D (tyL cI cZ cB cC) sz (wC ca ca1 ca2 ca3 cI cZ cB cC cn cpu cco cwe))) (QI D (va_A (wC ca ca1 ca2 ca3 cI cZ cB cC cn cpu cco cwe) sz) r0 (wC ca ca1 ca2 ca3 cI cZ cB cC cn cpu cco cwe)) 0 0 (va_A (wC ca ca1 ca2 ca3 cI cZ cB cC cn cpu cco cwe) sz) := by
  refine Met.ofW (cc := cK3_weightOf) (maxL := 4) (ret := (some .int)) (by decide) rfl ?_
  intro p e s m args below meth c s₁ B hml hv
  obtain ⟨rfl, hsz, hP, hK, hD0, hN⟩ := hv
  have hx := B.exec
  have hb := B.bytes
  have hr := B.returns
  have hts := htsA (atoms_spec (ws := wsK3_weightOf) B.pre)
  have hown : s.vm.findClass RK3 = some m.cls := findClass_of_methodNamed B.named
  have hlocks := B.notSynchronized
  subst hsz
  have hD := hD0.self (sz := s.heap.size)
  generalize hAe : va_A (wC ca ca1 ca2 ca3 cI cZ cB cC cn cpu cco cwe) s.heap.size = A at hD ⊢
  have hA : ∀ q : Nat, s.heap.size ≤ q → A q := fun q h => by rw [← hAe]; exact Or.inr h
  refine kstart (A := A) hP (fun H hP hS => ?_)
  have hl := lv_entry ([.ref ca, .int v1]) (n := 4) (Nat.le_of_ble_eq_true rfl)
  rw [lg_entry_eq]
  generalize (lg_sl ([.ref ca, .int v1]) ++ List.replicate (4 - (lg_sl ([.ref ca, .int v1])).length) Slot.unset).toArray = ls at hl ⊢
  have hl : lv_has ls 4 [(0, .ref ca), (1, .int v1)] := hl
  unfold mK3_weightOf at hm
  refine lv_iconst (v := 0) hx hb dK3_weightOf_0 (by decide) ?_
  refine lv_istore_n (lv' := [(2, .int 0), (0, .ref ca), (1, .int v1)]) hx hb dK3_weightOf_1 rfl hl (by decide) rfl (fun ls hl => ?_)
  refine lv_iconst (v := 0) hx hb dK3_weightOf_2 (by decide) ?_
  refine lv_istore_n (lv' := [(3, .int 0), (2, .int 0), (0, .ref ca), (1, .int v1)]) hx hb dK3_weightOf_3 rfl hl (by decide) rfl (fun ls hl => ?_)
  have lx4 : ∀ (i2x4 : Int32) (H : Heap) (locs : List Loc) (ls : Array Slot), mK3_weightOf_A4 i2x4 = some r0 → va_P D vwCl (wC ca ca1 ca2 ca3 cI cZ cB cC cn cpu cco cwe) H → va_D A (wC ca ca1 ca2 ca3 cI cZ cB cC cn cpu cco cwe) → va_S A s.heap H locs → lv_has ls 4 [(2, .int i2x4)] → W p l e (headSpec wsK3_weightOf rmK3_weightOf).room s m ([.ref ca, .int v1] : List Value).toArray below meth c H locs 0 0 (MQ below (QI D A r0 (wC ca ca1 ca2 ca3 cI cZ cB cC cn cpu cco cwe)) ([.ref ca, .int v1] : List Value).toArray s 0 0 A) (F0 m 35 ls []) := by
    intro i2x4 H locs ls hm hP hD hS hl
    unfold mK3_weightOf_A4 at hm
    refine lv_iload_n hx hb dK3_weightOf_35 rfl (lv_at hl 0 rfl) ?_
    replace hm := Option.some.inj hm
    subst hm
    exact k_reti hx hb hr hlocks hP hD hS dK3_weightOf_36
  have lp4 : ∀ (n4 : Nat) (i2l4 : Int32) (i3l4 : Int32) (H : Heap) (locs : List Loc) (ls : Array Slot), mK3_weightOf_L4 cn cwe v1 (mK3_weightOf_A4) n4 i2l4 i3l4 = some r0 → va_P D vwCl (wC ca ca1 ca2 ca3 cI cZ cB cC cn cpu cco cwe) H → va_D A (wC ca ca1 ca2 ca3 cI cZ cB cC cn cpu cco cwe) → va_S A s.heap H locs → lv_has ls 4 [(3, .int i3l4), (2, .int i2l4), (0, .ref ca), (1, .int v1)] → W p l e (headSpec wsK3_weightOf rmK3_weightOf).room s m ([.ref ca, .int v1] : List Value).toArray below meth c H locs 0 0 (MQ below (QI D A r0 (wC ca ca1 ca2 ca3 cI cZ cB cC cn cpu cco cwe)) ([.ref ca, .int v1] : List Value).toArray s 0 0 A) (F0 m 4 ls []) := by
    intro n4
    induction n4 with
    | zero => intro i2l4 i3l4 H locs ls hm; exact nomatch (show none = _ from hm)
    | succ n4 ih4 =>
      intro i2l4 i3l4 H locs ls hm hP hD hS hl
      replace hm : mK3_weightOf_B4 cn cwe v1 (mK3_weightOf_A4) (mK3_weightOf_L4 cn cwe v1 (mK3_weightOf_A4) n4) i2l4 i3l4 = some r0 := hm
      unfold mK3_weightOf_B4 at hm
      refine lv_iload_n hx hb dK3_weightOf_4 rfl (lv_at hl 0 rfl) ?_
      refine lv_aload_n hx hb dK3_weightOf_5 rfl (lv_at hl 2 rfl) ?_
      refine va_get (D := D) (ci := 3) (v := .int cn) (C := RK3) (T := TK3) (N := 4) hx hb hts inK3 hown hK hP 0 rfl rfl 3 (by decide) (hts _ wdt1_82) (fun _ h9 => h9) rfl dK3_weightOf_6 ?_
      refine lv_icmp_ge (tgt := 35) hx hb dK3_weightOf_9 (by decide) (fun hc => ?_) (fun hc => ?_)
      · replace hm := ift hm hc
        exact lx4 i2l4 _ _ _ hm hP hD hS (lv_sub hl [1] rfl)
      · replace hm := iff_ hm hc
        refine lv_iload_n hx hb dK3_weightOf_12 rfl (lv_at hl 3 rfl) ?_
        refine lv_iload_n hx hb dK3_weightOf_13 rfl (lv_at hl 0 rfl) ?_
        obtain ⟨x1, ec2, hm⟩ := bd1_s hm
        have hPc : va_P D vwCl [] H := va_P0
        have hDc : va_D A [] := va_D0
        refine k_calli0 (va_runSN (As := [.int v1, .int i3l4]) (rest := []) ⟨hx, hb, hml, hown, hts⟩ (kK0_hasMember l D cI cZ cB cC H.size v1 i3l4 x1 ec2) ⟨va_cnB 2 hts gkK0_hasMember rfl rfl rfl (nwM hN 10 rfl) (hts _ wdt1_1) (by decide +kernel) ⟨Nat.le_of_ble_eq_true rfl, Nat.le_of_ble_eq_true rfl⟩, (hts _ wdt1_200), trivial⟩ ⟨Pr_blind, fun U hU hW => ⟨rfl, Pr_at hK hN hPc hDc hU hW⟩⟩ rfl rfl hl.1 rfl (lv_room (Nat.le_of_ble_eq_true rfl)) dK3_weightOf_14 ⟨Nat.le_of_ble_eq_true rfl, Nat.le_of_ble_eq_true rfl⟩) hP hD hS hA (fun H locs hP hD hS => ?_)
        refine lv_if_eq (tgt := 29) hx hb dK3_weightOf_17 (by decide) (fun hc => ?_) (fun hc => ?_)
        · replace hm := ift hm hc
          obtain ⟨x3, ex3, hm⟩ := bd1_s hm
          refine lv_iinc (v := x3) (lv' := [(3, .int x3), (2, .int i2l4), (0, .ref ca), (1, .int v1)]) hx hb dK3_weightOf_29 hl (k := 0) rfl (by rw [← Option.some.inj ex3]; rfl) (by decide) rfl (fun ls hl => ?_)
          refine lv_goto (tgt := 4) hx hb dK3_weightOf_32 (by decide) ?_
          exact ih4 i2l4 x3 _ _ _ hm hP hD hS (lv_sub hl [0, 1, 2, 3] rfl)
        · replace hm := iff_ hm hc
          refine lv_iload_n hx hb dK3_weightOf_20 rfl (lv_at hl 1 rfl) ?_
          refine lv_aload_n hx hb dK3_weightOf_21 rfl (lv_at hl 2 rfl) ?_
          refine va_get (D := D) (ci := 3) (v := .ref ca3) (C := RK3) (T := TK3) (N := 4) hx hb hts inK3 hown hK hP 0 rfl rfl 2 (by decide) (hts _ wdt1_81) (fun _ h9 => h9) rfl dK3_weightOf_22 ?_
          refine lv_iload_n hx hb dK3_weightOf_25 rfl (lv_at hl 0 rfl) ?_
          obtain ⟨x4, ex4, hm⟩ := bd1_s hm
          obtain ⟨hix4, ex4⟩ := rd_s ex4
          refine va_iald hx hb hK hP 3 0 rfl rfl hix4 dK3_weightOf_26 ?_
          refine topi ex4 ?_
          refine lv_iadd hx hb dK3_weightOf_27 ?_
          obtain ⟨x5, ex5, hm⟩ := bd1_s hm
          refine topi (Option.some.inj ex5) ?_
          refine lv_istore_n (lv' := [(2, .int x5), (3, .int i3l4), (0, .ref ca), (1, .int v1)]) hx hb dK3_weightOf_28 rfl hl (by decide) rfl (fun ls hl => ?_)
          obtain ⟨x6, ex6, hm⟩ := bd1_s hm
          refine lv_iinc (v := x6) (lv' := [(3, .int x6), (2, .int x5), (0, .ref ca), (1, .int v1)]) hx hb dK3_weightOf_29 hl (k := 1) rfl (by rw [← Option.some.inj ex6]; rfl) (by decide) rfl (fun ls hl => ?_)
          refine lv_goto (tgt := 4) hx hb dK3_weightOf_32 (by decide) ?_
          exact ih4 x5 x6 _ _ _ hm hP hD hS (lv_sub hl [0, 1, 2, 3] rfl)
  exact lp4 5000 0 0 _ _ _ hm hP hD hS (lv_sub hl [0, 1, 2, 3] rfl)
def mK4_add_A15 (fn : Int32) (v1 : Int32) (v2 : Int32) (i3x15 : Int32) (fsex15 : Nat → Int32) (fsux15 : Nat → Int32) : Option (Int32 × (Nat → Int32) × (Nat → Int32)) :=
  bd1 (wrt fsex15 30 i3x15 v1) fun x1 => bd1 (wrt fsux15 30 i3x15 v2) fun x2 => bd1 (some (fn + 1)) fun x3 => some (x3, x1, x2)
def mK4_add_B15 (v2 : Int32) (kx15 : Int32 → (Nat → Int32) → (Nat → Int32) → (Option (Int32 × (Nat → Int32) × (Nat → Int32)))) (rc15 : Int32 → (Nat → Int32) → (Nat → Int32) → (Option (Int32 × (Nat → Int32) × (Nat → Int32)))) (i3l15 : Int32) (fsel15 : Nat → Int32) (fsul15 : Nat → Int32) : Option (Int32 × (Nat → Int32) × (Nat → Int32)) :=
  if i3l15 ≤ 0 then
  (kx15 i3l15 fsel15 fsul15)
  else
  (bd1 (rd fsul15 30 (i3l15 - 1)) fun x4 => if x4 ≤ v2 then
    (kx15 i3l15 fsel15 fsul15)
    else
    (bd1 (rd fsel15 30 (i3l15 - 1)) fun x5 => bd1 (wrt fsel15 30 i3l15 x5) fun x6 => bd1 (rd fsul15 30 (i3l15 - 1)) fun x7 => bd1 (wrt fsul15 30 i3l15 x7) fun x8 => bd1 (some (i3l15 + (-1))) fun x9 => rc15 x9 x6 x8))
def mK4_add_L15 (v2 : Int32) (kx15 : Int32 → (Nat → Int32) → (Nat → Int32) → (Option (Int32 × (Nat → Int32) × (Nat → Int32)))) : Nat → Int32 → (Nat → Int32) → (Nat → Int32) → (Option (Int32 × (Nat → Int32) × (Nat → Int32)))
  | 0, _, _, _ => none
  | n + 1, i3l15, fsel15, fsul15 => mK4_add_B15 v2 kx15 (mK4_add_L15 v2 kx15 n) i3l15 fsel15 fsul15
def mK4_add (fn : Int32) (fse : Nat → Int32) (fsu : Nat → Int32) (v1 : Int32) (v2 : Int32) : Option (Int32 × (Nat → Int32) × (Nat → Int32)) :=
  if fn < 30 then
  (mK4_add_L15 v2 (mK4_add_A15 fn v1 v2) 5000 fn fse fsu)
  else
  (some (fn, fse, fsu))
abbrev rmK4_add : Room := { frames := 0, cells := 0, slots := 0, locals := 0 }
set_option maxHeartbeats 4000000 in
set_option maxRecDepth 100000 in
theorem kK4_add (l : Launch) (D : va_G) (cI cZ cB cC : ClassId) (sz : Nat) (fa : Nat) (fa1 : Nat) (fa2 : Nat) (fn : Int32) (fse : Nat → Int32) (fsu : Nat → Int32) (v1 : Int32) (v2 : Int32) (fn_r : Int32) (fse_r : Nat → Int32) (fsu_r : Nat → Int32) (hm : mK4_add fn fse fsu v1 v2 = some (fn_r, fse_r, fsu_r)) : Met l yK4_add wsK4_add rmK4_add (va_Pc [.ref fa, .int v1, .int v2] (Pr D (tyL cI cZ cB cC) sz (wF fa fa1 fa2 cI cZ cB cC fn fse fsu))) (QV D (va_A (wF fa fa1 fa2 cI cZ cB cC fn fse fsu) sz) (wF fa fa1 fa2 cI cZ cB cC fn_r fse_r fsu_r)) 0 0 (va_A (wF fa fa1 fa2 cI cZ cB cC fn fse fsu) sz) := by
  refine Met.ofW (cc := cK4_add) (maxL := 4) (ret := none) (by decide) rfl ?_
  intro p e s m args below meth c s₁ B hml hv
  obtain ⟨rfl, hsz, hP, hK, hD0, hN⟩ := hv
  have hx := B.exec
  have hb := B.bytes
  have hr := B.returns
  have hts := htsA (atoms_spec (ws := wsK4_add) B.pre)
  have hown : s.vm.findClass RK4 = some m.cls := findClass_of_methodNamed B.named
  have hlocks := B.notSynchronized
  subst hsz
  have hD := hD0.self (sz := s.heap.size)
  generalize hAe : va_A (wF fa fa1 fa2 cI cZ cB cC fn fse fsu) s.heap.size = A at hD ⊢
  have hA : ∀ q : Nat, s.heap.size ≤ q → A q := fun q h => by rw [← hAe]; exact Or.inr h
  refine kstart (A := A) hP (fun H hP hS => ?_)
  have hl := lv_entry ([.ref fa, .int v1, .int v2]) (n := 4) (Nat.le_of_ble_eq_true rfl)
  rw [lg_entry_eq]
  generalize (lg_sl ([.ref fa, .int v1, .int v2]) ++ List.replicate (4 - (lg_sl ([.ref fa, .int v1, .int v2])).length) Slot.unset).toArray = ls at hl ⊢
  have hl : lv_has ls 4 [(0, .ref fa), (1, .int v1), (2, .int v2)] := hl
  unfold mK4_add at hm
  refine lv_aload_n hx hb dK4_add_0 rfl (lv_at hl 0 rfl) ?_
  refine va_get (D := D) (ci := 4) (v := .int fn) (C := RK4) (T := TK4) (N := 3) hx hb hts inK4 hown hK hP 0 rfl rfl 2 (by decide) (hts _ wdt1_102) (fun _ h9 => h9) rfl dK4_add_1 ?_
  refine lv_bipush (v := 30) hx hb dK4_add_4 (by decide) ?_
  refine lv_icmp_lt (tgt := 10) hx hb dK4_add_6 (by decide) (fun hc => ?_) (fun hc => ?_)
  · replace hm := ift hm hc
    refine lv_aload_n hx hb dK4_add_10 rfl (lv_at hl 0 rfl) ?_
    refine va_get (D := D) (ci := 4) (v := .int fn) (C := RK4) (T := TK4) (N := 3) hx hb hts inK4 hown hK hP 0 rfl rfl 2 (by decide) (hts _ wdt1_102) (fun _ h9 => h9) rfl dK4_add_11 ?_
    refine lv_istore_n (lv' := [(3, .int fn), (0, .ref fa), (1, .int v1), (2, .int v2)]) hx hb dK4_add_14 rfl hl (by decide) rfl (fun ls hl => ?_)
    have lx15 : ∀ (i3x15 : Int32) (fsex15 : Nat → Int32) (fsux15 : Nat → Int32) (H : Heap) (locs : List Loc) (ls : Array Slot), mK4_add_A15 fn v1 v2 i3x15 fsex15 fsux15 = some (fn_r, fse_r, fsu_r) → va_P D vwCl (wF fa fa1 fa2 cI cZ cB cC fn fsex15 fsux15) H → va_D A (wF fa fa1 fa2 cI cZ cB cC fn fsex15 fsux15) → va_S A s.heap H locs → lv_has ls 4 [(0, .ref fa), (1, .int v1), (2, .int v2), (3, .int i3x15)] → W p l e (headSpec wsK4_add rmK4_add).room s m ([.ref fa, .int v1, .int v2] : List Value).toArray below meth c H locs 0 0 (MQ below (QV D A (wF fa fa1 fa2 cI cZ cB cC fn_r fse_r fsu_r)) ([.ref fa, .int v1, .int v2] : List Value).toArray s 0 0 A) (F0 m 65 ls []) := by
      intro i3x15 fsex15 fsux15 H locs ls hm hP hD hS hl
      unfold mK4_add_A15 at hm
      refine lv_aload_n hx hb dK4_add_65 rfl (lv_at hl 0 rfl) ?_
      refine va_get (D := D) (ci := 4) (v := .ref fa1) (C := RK4) (T := TK4) (N := 3) hx hb hts inK4 hown hK hP 0 rfl rfl 0 (by decide) (hts _ wdt1_100) (fun _ h9 => h9) rfl dK4_add_66 ?_
      refine lv_iload_n hx hb dK4_add_69 rfl (lv_at hl 3 rfl) ?_
      refine lv_iload_n hx hb dK4_add_70 rfl (lv_at hl 1 rfl) ?_
      obtain ⟨x1, ex1, hm⟩ := bd1_s hm
      obtain ⟨hix1, ex1⟩ := wrt_s ex1
      refine va_iast hx hb hK hP hD hS 1 0 rfl rfl hix1 dK4_add_71 (fun H locs hP hD hS => ?_)
      rw [ex1] at hP hD
      have hP : va_P D vwCl (wF fa fa1 fa2 cI cZ cB cC fn x1 fsux15) H := hP
      have hD : va_D A (wF fa fa1 fa2 cI cZ cB cC fn x1 fsux15) := hD
      refine lv_aload_n hx hb dK4_add_72 rfl (lv_at hl 0 rfl) ?_
      refine va_get (D := D) (ci := 4) (v := .ref fa2) (C := RK4) (T := TK4) (N := 3) hx hb hts inK4 hown hK hP 0 rfl rfl 1 (by decide) (hts _ wdt1_101) (fun _ h9 => h9) rfl dK4_add_73 ?_
      refine lv_iload_n hx hb dK4_add_76 rfl (lv_at hl 3 rfl) ?_
      refine lv_iload_n hx hb dK4_add_77 rfl (lv_at hl 2 rfl) ?_
      obtain ⟨x2, ex2, hm⟩ := bd1_s hm
      obtain ⟨hix2, ex2⟩ := wrt_s ex2
      refine va_iast hx hb hK hP hD hS 2 0 rfl rfl hix2 dK4_add_78 (fun H locs hP hD hS => ?_)
      rw [ex2] at hP hD
      have hP : va_P D vwCl (wF fa fa1 fa2 cI cZ cB cC fn x1 x2) H := hP
      have hD : va_D A (wF fa fa1 fa2 cI cZ cB cC fn x1 x2) := hD
      refine lv_aload_n hx hb dK4_add_79 rfl (lv_at hl 0 rfl) ?_
      refine lv_dup hx hb dK4_add_80 rfl ?_
      refine va_get (D := D) (ci := 4) (v := .int fn) (C := RK4) (T := TK4) (N := 3) hx hb hts inK4 hown hK hP 0 rfl rfl 2 (by decide) (hts _ wdt1_102) (fun _ h9 => h9) rfl dK4_add_81 ?_
      refine lv_iconst (v := 1) hx hb dK4_add_84 (by decide) ?_
      refine lv_iadd hx hb dK4_add_85 ?_
      obtain ⟨x3, ex3, hm⟩ := bd1_s hm
      refine topi (Option.some.inj ex3) ?_
      refine va_put (D := D) (ci := 4) (v := .int x3) (ty := .int) (C := RK4) (T := TK4) (N := 3) hx hb hts inK4 tyK4 tyK4_ok nmK4 hown hK hP hD hS 0 rfl rfl 2 (by decide) (hts _ wdt1_102) (fun _ h9 => h9) rfl (by decide +kernel) rfl rfl (Nat.le_of_ble_eq_true rfl) dK4_add_86 (fun H locs hP hD hS => ?_)
      have hP : va_P D vwCl (wF fa fa1 fa2 cI cZ cB cC x3 x1 x2) H := hP
      have hD : va_D A (wF fa fa1 fa2 cI cZ cB cC x3 x1 x2) := hD
      replace hm := Option.some.inj hm
      simp only [Prod.mk.injEq] at hm
      obtain ⟨rfl, rfl, rfl⟩ := hm
      exact k_retv hx hb hr hlocks hP hD hS dK4_add_89
    have lp15 : ∀ (n15 : Nat) (i3l15 : Int32) (fsel15 : Nat → Int32) (fsul15 : Nat → Int32) (H : Heap) (locs : List Loc) (ls : Array Slot), mK4_add_L15 v2 (mK4_add_A15 fn v1 v2) n15 i3l15 fsel15 fsul15 = some (fn_r, fse_r, fsu_r) → va_P D vwCl (wF fa fa1 fa2 cI cZ cB cC fn fsel15 fsul15) H → va_D A (wF fa fa1 fa2 cI cZ cB cC fn fsel15 fsul15) → va_S A s.heap H locs → lv_has ls 4 [(3, .int i3l15), (0, .ref fa), (1, .int v1), (2, .int v2)] → W p l e (headSpec wsK4_add rmK4_add).room s m ([.ref fa, .int v1, .int v2] : List Value).toArray below meth c H locs 0 0 (MQ below (QV D A (wF fa fa1 fa2 cI cZ cB cC fn_r fse_r fsu_r)) ([.ref fa, .int v1, .int v2] : List Value).toArray s 0 0 A) (F0 m 15 ls []) := by
      intro n15
      induction n15 with
      | zero => intro i3l15 fsel15 fsul15 H locs ls hm; exact nomatch (show none = _ from hm)
      | succ n15 ih15 =>
        intro i3l15 fsel15 fsul15 H locs ls hm hP hD hS hl
        replace hm : mK4_add_B15 v2 (mK4_add_A15 fn v1 v2) (mK4_add_L15 v2 (mK4_add_A15 fn v1 v2) n15) i3l15 fsel15 fsul15 = some (fn_r, fse_r, fsu_r) := hm
        unfold mK4_add_B15 at hm
        refine lv_iload_n hx hb dK4_add_15 rfl (lv_at hl 0 rfl) ?_
        refine lv_if_le (tgt := 65) hx hb dK4_add_16 (by decide) (fun hc => ?_) (fun hc => ?_)
        · replace hm := ift hm hc
          exact lx15 i3l15 fsel15 fsul15 _ _ _ hm hP hD hS (lv_sub hl [1, 2, 3, 0] rfl)
        · replace hm := iff_ hm hc
          refine lv_aload_n hx hb dK4_add_19 rfl (lv_at hl 1 rfl) ?_
          refine va_get (D := D) (ci := 4) (v := .ref fa2) (C := RK4) (T := TK4) (N := 3) hx hb hts inK4 hown hK hP 0 rfl rfl 1 (by decide) (hts _ wdt1_101) (fun _ h9 => h9) rfl dK4_add_20 ?_
          refine lv_iload_n hx hb dK4_add_23 rfl (lv_at hl 0 rfl) ?_
          refine lv_iconst (v := 1) hx hb dK4_add_24 (by decide) ?_
          refine lv_isub hx hb dK4_add_25 ?_
          obtain ⟨x4, ex4, hm⟩ := bd1_s hm
          obtain ⟨hix4, ex4⟩ := rd_s ex4
          refine va_iald hx hb hK hP 2 0 rfl rfl hix4 dK4_add_26 ?_
          refine topi ex4 ?_
          refine lv_iload_n hx hb dK4_add_27 rfl (lv_at hl 3 rfl) ?_
          refine lv_icmp_le (tgt := 65) hx hb dK4_add_28 (by decide) (fun hc => ?_) (fun hc => ?_)
          · replace hm := ift hm hc
            exact lx15 i3l15 fsel15 fsul15 _ _ _ hm hP hD hS (lv_sub hl [1, 2, 3, 0] rfl)
          · replace hm := iff_ hm hc
            refine lv_aload_n hx hb dK4_add_31 rfl (lv_at hl 1 rfl) ?_
            refine va_get (D := D) (ci := 4) (v := .ref fa1) (C := RK4) (T := TK4) (N := 3) hx hb hts inK4 hown hK hP 0 rfl rfl 0 (by decide) (hts _ wdt1_100) (fun _ h9 => h9) rfl dK4_add_32 ?_
            refine lv_iload_n hx hb dK4_add_35 rfl (lv_at hl 0 rfl) ?_
            refine lv_aload_n hx hb dK4_add_36 rfl (lv_at hl 1 rfl) ?_
            refine va_get (D := D) (ci := 4) (v := .ref fa1) (C := RK4) (T := TK4) (N := 3) hx hb hts inK4 hown hK hP 0 rfl rfl 0 (by decide) (hts _ wdt1_100) (fun _ h9 => h9) rfl dK4_add_37 ?_
            refine lv_iload_n hx hb dK4_add_40 rfl (lv_at hl 0 rfl) ?_
            refine lv_iconst (v := 1) hx hb dK4_add_41 (by decide) ?_
            refine lv_isub hx hb dK4_add_42 ?_
            obtain ⟨x5, ex5, hm⟩ := bd1_s hm
            obtain ⟨hix5, ex5⟩ := rd_s ex5
            refine va_iald hx hb hK hP 1 0 rfl rfl hix5 dK4_add_43 ?_
            refine topi ex5 ?_
            obtain ⟨x6, ex6, hm⟩ := bd1_s hm
            obtain ⟨hix6, ex6⟩ := wrt_s ex6
            refine va_iast hx hb hK hP hD hS 1 0 rfl rfl hix6 dK4_add_44 (fun H locs hP hD hS => ?_)
            rw [ex6] at hP hD
            have hP : va_P D vwCl (wF fa fa1 fa2 cI cZ cB cC fn x6 fsul15) H := hP
            have hD : va_D A (wF fa fa1 fa2 cI cZ cB cC fn x6 fsul15) := hD
            refine lv_aload_n hx hb dK4_add_45 rfl (lv_at hl 1 rfl) ?_
            refine va_get (D := D) (ci := 4) (v := .ref fa2) (C := RK4) (T := TK4) (N := 3) hx hb hts inK4 hown hK hP 0 rfl rfl 1 (by decide) (hts _ wdt1_101) (fun _ h9 => h9) rfl dK4_add_46 ?_
            refine lv_iload_n hx hb dK4_add_49 rfl (lv_at hl 0 rfl) ?_
            refine lv_aload_n hx hb dK4_add_50 rfl (lv_at hl 1 rfl) ?_
            refine va_get (D := D) (ci := 4) (v := .ref fa2) (C := RK4) (T := TK4) (N := 3) hx hb hts inK4 hown hK hP 0 rfl rfl 1 (by decide) (hts _ wdt1_101) (fun _ h9 => h9) rfl dK4_add_51 ?_
            refine lv_iload_n hx hb dK4_add_54 rfl (lv_at hl 0 rfl) ?_
            refine lv_iconst (v := 1) hx hb dK4_add_55 (by decide) ?_
            refine lv_isub hx hb dK4_add_56 ?_
            obtain ⟨x7, ex7, hm⟩ := bd1_s hm
            obtain ⟨hix7, ex7⟩ := rd_s ex7
            refine va_iald hx hb hK hP 2 0 rfl rfl hix7 dK4_add_57 ?_
            refine topi ex7 ?_
            obtain ⟨x8, ex8, hm⟩ := bd1_s hm
            obtain ⟨hix8, ex8⟩ := wrt_s ex8
            refine va_iast hx hb hK hP hD hS 2 0 rfl rfl hix8 dK4_add_58 (fun H locs hP hD hS => ?_)
            rw [ex8] at hP hD
            have hP : va_P D vwCl (wF fa fa1 fa2 cI cZ cB cC fn x6 x8) H := hP
            have hD : va_D A (wF fa fa1 fa2 cI cZ cB cC fn x6 x8) := hD
            obtain ⟨x9, ex9, hm⟩ := bd1_s hm
            refine lv_iinc (v := x9) (lv' := [(3, .int x9), (0, .ref fa), (1, .int v1), (2, .int v2)]) hx hb dK4_add_59 hl (k := 0) rfl (by rw [← Option.some.inj ex9]; rfl) (by decide) rfl (fun ls hl => ?_)
            refine lv_goto (tgt := 15) hx hb dK4_add_62 (by decide) ?_
            exact ih15 x9 x6 x8 _ _ _ hm hP hD hS (lv_sub hl [0, 1, 2, 3] rfl)
    exact lp15 5000 fn fse fsu _ _ _ hm hP hD hS (lv_sub hl [0, 1, 2, 3] rfl)
  · replace hm := iff_ hm hc
    replace hm := Option.some.inj hm
    simp only [Prod.mk.injEq] at hm
    obtain ⟨rfl, rfl, rfl⟩ := hm
    exact k_retv hx hb hr hlocks hP hD hS dK4_add_9
def mK0_findSets_A34 (oltx34 : Int32) (tisox34 : Int32) (tiobx34 : Nat → Int32) (timex34 : Nat → Int32) (fonx34 : Int32) (fosex34 : Nat → Int32) (fosux34 : Nat → Int32) : Option (Int32 × Int32 × Int32 × (Nat → Int32) × (Nat → Int32) × Int32 × (Nat → Int32) × (Nat → Int32)) :=
  some (oltx34, 1, tisox34, tiobx34, timex34, fonx34, fosex34, fosux34)
def mK0_findSets_J122 (chn : Int32) (v3 : Int32) (i4l34 : Int32) (i5l34 : Int32) (rc34 : Int32 → Int32 → Int32 → Int32 → (Nat → Int32) → (Nat → Int32) → Int32 → (Nat → Int32) → (Nat → Int32) → (Option (Int32 × Int32 × Int32 × (Nat → Int32) × (Nat → Int32) × Int32 × (Nat → Int32) × (Nat → Int32)))) (x10 : Int32) (x11 : Int32) (x12 : Nat → Int32) (x13 : Nat → Int32) (fonj122 : Int32) (fosej122 : Nat → Int32) (fosuj122 : Nat → Int32) : Option (Int32 × Int32 × Int32 × (Nat → Int32) × (Nat → Int32) × Int32 × (Nat → Int32) × (Nat → Int32)) :=
  if fonj122 < 30 then
  (bd1 (mK0_nextSet i4l34 chn v3) fun x17 => bd1 (some (i5l34 + 1)) fun x19 => rc34 x17 x19 x10 x11 x12 x13 fonj122 fosej122 fosuj122)
  else
  (some (x10, 0, x11, x12, x13, fonj122, fosej122, fosuj122))
def mK0_findSets_B34 (oal : Int32) (trso : Int32) (trob : Nat → Int32) (trme : Nat → Int32) (ruki : Nat → Int32) (ruta : Nat → Int32) (rupr : Nat → Int32) (runu : Nat → Int32) (chn : Int32) (chpu : Nat → Int32) (chco : Nat → Int32) (chwe : Nat → Int32) (v1 : Int32) (v2 : Int32) (v3 : Int32) (kx34 : Int32 → Int32 → (Nat → Int32) → (Nat → Int32) → Int32 → (Nat → Int32) → (Nat → Int32) → (Option (Int32 × Int32 × Int32 × (Nat → Int32) × (Nat → Int32) × Int32 × (Nat → Int32) × (Nat → Int32)))) (rc34 : Int32 → Int32 → Int32 → Int32 → (Nat → Int32) → (Nat → Int32) → Int32 → (Nat → Int32) → (Nat → Int32) → (Option (Int32 × Int32 × Int32 × (Nat → Int32) × (Nat → Int32) × Int32 × (Nat → Int32) × (Nat → Int32)))) (i4l34 : Int32) (i5l34 : Int32) (oltl34 : Int32) (tisol34 : Int32) (tiobl34 : Nat → Int32) (timel34 : Nat → Int32) (fonl34 : Int32) (fosel34 : Nat → Int32) (fosul34 : Nat → Int32) : Option (Int32 × Int32 × Int32 × (Nat → Int32) × (Nat → Int32) × Int32 × (Nat → Int32) × (Nat → Int32)) :=
  if 4096 ≤ i5l34 then
  (kx34 oltl34 tisol34 tiobl34 timel34 fonl34 fosel34 fosul34)
  else
  (if i4l34 = ((-1)) then
    (kx34 oltl34 tisol34 tiobl34 timel34 fonl34 fosel34 fosul34)
    else
    (bd1 (mK4_hasPartOf fonl34 fosel34 i4l34) fun x5 => if x5 = 0 then
      (if oltl34 < oal then
        (bd1 (some (oltl34 + 1)) fun x10 => bd3 (mK0_tryOut trso trob trme tisol34 tiobl34 timel34 chn chpu chco i4l34) fun x11 x12 x13 => bd1 (mK2_fails ruki ruta rupr runu x12 x13 v1 v2) fun x15 => if x15 = 0 then
          (bd1 (mK3_weightOf chn chwe i4l34) fun x20 => bd3 (mK4_add fonl34 fosel34 fosul34 i4l34 x20) fun x22 x23 x24 => mK0_findSets_J122 chn v3 i4l34 i5l34 rc34 x10 x11 x12 x13 x22 x23 x24)
          else
          (mK0_findSets_J122 chn v3 i4l34 i5l34 rc34 x10 x11 x12 x13 fonl34 fosel34 fosul34))
        else
        (some (oltl34, 0, tisol34, tiobl34, timel34, fonl34, fosel34, fosul34)))
      else
      (bd1 (mK0_nextSet i4l34 chn v3) fun x7 => bd1 (some (i5l34 + 1)) fun x9 => rc34 x7 x9 oltl34 tisol34 tiobl34 timel34 fonl34 fosel34 fosul34)))
def mK0_findSets_L34 (oal : Int32) (trso : Int32) (trob : Nat → Int32) (trme : Nat → Int32) (ruki : Nat → Int32) (ruta : Nat → Int32) (rupr : Nat → Int32) (runu : Nat → Int32) (chn : Int32) (chpu : Nat → Int32) (chco : Nat → Int32) (chwe : Nat → Int32) (v1 : Int32) (v2 : Int32) (v3 : Int32) (kx34 : Int32 → Int32 → (Nat → Int32) → (Nat → Int32) → Int32 → (Nat → Int32) → (Nat → Int32) → (Option (Int32 × Int32 × Int32 × (Nat → Int32) × (Nat → Int32) × Int32 × (Nat → Int32) × (Nat → Int32)))) : Nat → Int32 → Int32 → Int32 → Int32 → (Nat → Int32) → (Nat → Int32) → Int32 → (Nat → Int32) → (Nat → Int32) → (Option (Int32 × Int32 × Int32 × (Nat → Int32) × (Nat → Int32) × Int32 × (Nat → Int32) × (Nat → Int32)))
  | 0, _, _, _, _, _, _, _, _, _ => none
  | n + 1, i4l34, i5l34, oltl34, tisol34, tiobl34, timel34, fonl34, fosel34, fosul34 => mK0_findSets_B34 oal trso trob trme ruki ruta rupr runu chn chpu chco chwe v1 v2 v3 kx34 (mK0_findSets_L34 oal trso trob trme ruki ruta rupr runu chn chpu chco chwe v1 v2 v3 kx34 n) i4l34 i5l34 oltl34 tisol34 tiobl34 timel34 fonl34 fosel34 fosul34
def mK0_findSets (oal : Int32) (olt : Int32) (ols : Int32) (trso : Int32) (trob : Nat → Int32) (trme : Nat → Int32) (tiso : Int32) (tiob : Nat → Int32) (time : Nat → Int32) (ruki : Nat → Int32) (ruta : Nat → Int32) (rupr : Nat → Int32) (runu : Nat → Int32) (chn : Int32) (chpu : Nat → Int32) (chco : Nat → Int32) (chwe : Nat → Int32) (fon : Int32) (fose : Nat → Int32) (fosu : Nat → Int32) (v1 : Int32) (v2 : Int32) (v3 : Int32) : Option (Int32 × Int32 × Int32 × (Nat → Int32) × (Nat → Int32) × Int32 × (Nat → Int32) × (Nat → Int32)) :=
  bd1 (mK4_forget fon) fun x1 => bd1 (mK0_nextSet 0 chn v3) fun x3 => mK0_findSets_L34 oal trso trob trme ruki ruta rupr runu chn chpu chco chwe v1 v2 v3 (mK0_findSets_A34) 5000 x3 0 0 tiso tiob time x1 fose fosu
abbrev rmK0_findSets : Room := { frames := 5, cells := 0, slots := 0, locals := 110 }
set_option maxHeartbeats 4000000 in
set_option maxRecDepth 100000 in
theorem kK0_findSets (l : Launch) (D : va_G) (cI cZ cB cC : ClassId) (sz : Nat) (oa : Nat) (tra : Nat) (tra1 : Nat) (tra2 : Nat) (tra3 : Nat) (tia : Nat) (tia1 : Nat) (tia2 : Nat) (tia3 : Nat) (rua : Nat) (rua1 : Nat) (rua2 : Nat) (rua3 : Nat) (rua4 : Nat) (cha : Nat) (cha1 : Nat) (cha2 : Nat) (cha3 : Nat) (foa : Nat) (foa1 : Nat) (foa2 : Nat) (sba : Nat) (ocs : Int32) (oal : Int32) (olt : Int32) (ols : Int32) (trso : Int32) (trob : Nat → Int32) (trme : Nat → Int32) (trwi : Nat → Int32) (tiso : Int32) (tiob : Nat → Int32) (time : Nat → Int32) (tiwi : Nat → Int32) (run : Int32) (ruki : Nat → Int32) (ruta : Nat → Int32) (rupr : Nat → Int32) (runu : Nat → Int32) (chn : Int32) (chpu : Nat → Int32) (chco : Nat → Int32) (chwe : Nat → Int32) (fon : Int32) (fose : Nat → Int32) (fosu : Nat → Int32) (v1 : Int32) (v2 : Int32) (v3 : Int32) (olt_r : Int32) (ols_r : Int32) (tiso_r : Int32) (tiob_r : Nat → Int32) (time_r : Nat → Int32) (fon_r : Int32) (fose_r : Nat → Int32) (fosu_r : Nat → Int32) (hm : mK0_findSets oal olt ols trso trob trme tiso tiob time ruki ruta rupr runu chn chpu chco chwe fon fose fosu v1 v2 v3 = some (olt_r, ols_r, tiso_r, tiob_r, time_r, fon_r, fose_r, fosu_r)) : Met l yK0_findSets wsK0_findSets rmK0_findSets (va_Pc [.ref oa, .int v1, .int v2, .int v3] (Pr D (tyL cI cZ cB cC) sz (wM oa tra tra1 tra2 tra3 tia tia1 tia2 tia3 rua rua1 rua2 rua3 rua4 cha cha1 cha2 cha3 foa foa1 foa2 sba cI cZ cB cC ocs oal olt ols trso trob trme trwi tiso tiob time tiwi run ruki ruta rupr runu chn chpu chco chwe fon fose fosu))) (QV D (va_A (wM oa tra tra1 tra2 tra3 tia tia1 tia2 tia3 rua rua1 rua2 rua3 rua4 cha cha1 cha2 cha3 foa foa1 foa2 sba cI cZ cB cC ocs oal olt ols trso trob trme trwi tiso tiob time tiwi run ruki ruta rupr runu chn chpu chco chwe fon fose fosu) sz) (wM oa tra tra1 tra2 tra3 tia tia1 tia2 tia3 rua rua1 rua2 rua3 rua4 cha cha1 cha2 cha3 foa foa1 foa2 sba cI cZ cB cC ocs oal olt_r ols_r trso trob trme trwi tiso_r tiob_r time_r tiwi run ruki ruta rupr runu chn chpu chco chwe fon_r fose_r fosu_r)) 0 0 (va_A (wM oa tra tra1 tra2 tra3 tia tia1 tia2 tia3 rua rua1 rua2 rua3 rua4 cha cha1 cha2 cha3 foa foa1 foa2 sba cI cZ cB cC ocs oal olt ols trso trob trme trwi tiso tiob time tiwi run ruki ruta rupr runu chn chpu chco chwe fon fose fosu) sz) := by
  refine Met.ofW (cc := cK0_findSets) (maxL := 6) (ret := none) (by decide) rfl ?_
  intro p e s m args below meth c s₁ B hml hv
  obtain ⟨rfl, hsz, hP, hK, hD0, hN⟩ := hv
  have hx := B.exec
  have hb := B.bytes
  have hr := B.returns
  have hts := htsA (atoms_spec (ws := wsK0_findSets) B.pre)
  have hown : s.vm.findClass RK0 = some m.cls := findClass_of_methodNamed B.named
  have hlocks := B.notSynchronized
  subst hsz
  have hD := hD0.self (sz := s.heap.size)
  generalize hAe : va_A (wM oa tra tra1 tra2 tra3 tia tia1 tia2 tia3 rua rua1 rua2 rua3 rua4 cha cha1 cha2 cha3 foa foa1 foa2 sba cI cZ cB cC ocs oal olt ols trso trob trme trwi tiso tiob time tiwi run ruki ruta rupr runu chn chpu chco chwe fon fose fosu) s.heap.size = A at hD ⊢
  have hA : ∀ q : Nat, s.heap.size ≤ q → A q := fun q h => by rw [← hAe]; exact Or.inr h
  refine kstart (A := A) hP (fun H hP hS => ?_)
  have hl := lv_entry ([.ref oa, .int v1, .int v2, .int v3]) (n := 6) (Nat.le_of_ble_eq_true rfl)
  rw [lg_entry_eq]
  generalize (lg_sl ([.ref oa, .int v1, .int v2, .int v3]) ++ List.replicate (6 - (lg_sl ([.ref oa, .int v1, .int v2, .int v3])).length) Slot.unset).toArray = ls at hl ⊢
  have hl : lv_has ls 6 [(0, .ref oa), (1, .int v1), (2, .int v2), (3, .int v3)] := hl
  unfold mK0_findSets at hm
  refine lv_aload_n hx hb dK0_findSets_0 rfl (lv_at hl 0 rfl) ?_
  refine va_get (D := D) (ci := 0) (v := .ref foa) (C := RK0) (T := TK0) (N := 10) hx hb hts inK0 hown hK hP 0 rfl rfl 4 (by decide) (hts _ wdt1_147) (fun _ h9 => h9) rfl dK0_findSets_1 ?_
  obtain ⟨x1, ec2, hm⟩ := bd1_s hm
  have hPc := hP.sub (ws' := (wF foa foa1 foa2 cI cZ cB cC fon fose fosu)) [18, 19, 20] rfl
  have hDc := hD.sub (ws' := (wF foa foa1 foa2 cI cZ cB cC fon fose fosu)) [18, 19, 20] (by decide) rfl
  refine k_callv (wr := [(oa, .inr (0, [.ref tra, .ref tia, .ref rua, .ref cha, .ref foa, .ref sba, .int ocs, .int oal, .int olt, .int ols])), (tra, .inr (1, [.ref tra1, .ref tra2, .ref tra3, .int trso])), (tra1, .inl (cI, 72, .inl trob)), (tra2, .inl (cI, 12, .inl trme)), (tra3, .inl (cI, 12, .inl trwi)), (tia, .inr (1, [.ref tia1, .ref tia2, .ref tia3, .int tiso])), (tia1, .inl (cI, 72, .inl tiob)), (tia2, .inl (cI, 12, .inl time)), (tia3, .inl (cI, 12, .inl tiwi)), (rua, .inr (2, [.ref rua1, .ref rua2, .ref rua3, .ref rua4, .int run])), (rua1, .inl (cI, 10, .inl ruki)), (rua2, .inl (cI, 10, .inl ruta)), (rua3, .inl (cI, 10, .inl rupr)), (rua4, .inl (cI, 10, .inl runu)), (cha, .inr (3, [.ref cha1, .ref cha2, .ref cha3, .int chn])), (cha1, .inl (cZ, 12, .inl chpu)), (cha2, .inl (cI, 12, .inl chco)), (cha3, .inl (cI, 12, .inl chwe))]) (w1 := (wF foa foa1 foa2 cI cZ cB cC x1 fose fosu)) (ws' := (wM oa tra tra1 tra2 tra3 tia tia1 tia2 tia3 rua rua1 rua2 rua3 rua4 cha cha1 cha2 cha3 foa foa1 foa2 sba cI cZ cB cC ocs oal olt ols trso trob trme trwi tiso tiob time tiwi run ruki ruta rupr runu chn chpu chco chwe x1 fose fosu)) (va_runV (As := []) (rest := []) ⟨hx, hb, hml, hown, hts⟩ (kK4_forget l D cI cZ cB cC H.size foa foa1 foa2 fon fose fosu x1 ec2) (cwV 0 hts (gdV wdt2_104 wdt2_105 wdt2_106 wdt1_5 gkK4_forget) rfl rfl rfl (by decide +kernel) ⟨Nat.le_of_ble_eq_true rfl, Nat.le_of_ble_eq_true rfl⟩) ⟨Pr_blind, va_recv hK hPc (ci := 4) (q0 := 0) rfl rfl, fun U hU hW => ⟨rfl, Pr_at hK hN hPc hDc hU hW⟩⟩ rfl rfl hl.1 rfl (lv_room (Nat.le_of_ble_eq_true rfl)) dK0_findSets_4 ⟨Nat.le_of_ble_eq_true rfl, Nat.le_of_ble_eq_true rfl⟩) hP hD hS hA [18, 19, 20] [0, 1, 2, 3, 4, 5, 6, 7, 8, 9, 10, 11, 12, 13, 14, 15, 16, 17] [0, 1, 2, 3, 4, 5, 6, 7, 8, 9, 10, 11, 12, 13, 14, 15, 16, 17, 18, 19, 20] rfl rfl (by decide) (by decide) (by decide) rfl (fun H locs hP hD hS => ?_)
  refine lv_aload_n hx hb dK0_findSets_7 rfl (lv_at hl 0 rfl) ?_
  refine lv_iconst (v := 0) hx hb dK0_findSets_8 (by decide) ?_
  refine va_put (D := D) (ci := 0) (v := .int 0) (ty := .int) (C := RK0) (T := TK0) (N := 10) hx hb hts inK0 tyK0 tyK0_ok nmK0 hown hK hP hD hS 0 rfl rfl 8 (by decide) (hts _ wdt1_151) (fun _ h9 => h9) rfl (by decide +kernel) rfl rfl (Nat.le_of_ble_eq_true rfl) dK0_findSets_9 (fun H locs hP hD hS => ?_)
  have hP : va_P D vwCl (wM oa tra tra1 tra2 tra3 tia tia1 tia2 tia3 rua rua1 rua2 rua3 rua4 cha cha1 cha2 cha3 foa foa1 foa2 sba cI cZ cB cC ocs oal 0 ols trso trob trme trwi tiso tiob time tiwi run ruki ruta rupr runu chn chpu chco chwe x1 fose fosu) H := hP
  have hD : va_D A (wM oa tra tra1 tra2 tra3 tia tia1 tia2 tia3 rua rua1 rua2 rua3 rua4 cha cha1 cha2 cha3 foa foa1 foa2 sba cI cZ cB cC ocs oal 0 ols trso trob trme trwi tiso tiob time tiwi run ruki ruta rupr runu chn chpu chco chwe x1 fose fosu) := hD
  refine lv_aload_n hx hb dK0_findSets_12 rfl (lv_at hl 0 rfl) ?_
  refine lv_iconst (v := 0) hx hb dK0_findSets_13 (by decide) ?_
  refine va_put (D := D) (ci := 0) (v := .int 0) (ty := .boolean) (C := RK0) (T := TK0) (N := 10) hx hb hts inK0 tyK0 tyK0_ok nmK0 hown hK hP hD hS 0 rfl rfl 9 (by decide) (hts _ wdt1_152) (fun _ h9 => h9) rfl (by decide +kernel) rfl rfl (Nat.le_of_ble_eq_true rfl) dK0_findSets_14 (fun H locs hP hD hS => ?_)
  have hP : va_P D vwCl (wM oa tra tra1 tra2 tra3 tia tia1 tia2 tia3 rua rua1 rua2 rua3 rua4 cha cha1 cha2 cha3 foa foa1 foa2 sba cI cZ cB cC ocs oal 0 0 trso trob trme trwi tiso tiob time tiwi run ruki ruta rupr runu chn chpu chco chwe x1 fose fosu) H := hP
  have hD : va_D A (wM oa tra tra1 tra2 tra3 tia tia1 tia2 tia3 rua rua1 rua2 rua3 rua4 cha cha1 cha2 cha3 foa foa1 foa2 sba cI cZ cB cC ocs oal 0 0 trso trob trme trwi tiso tiob time tiwi run ruki ruta rupr runu chn chpu chco chwe x1 fose fosu) := hD
  refine lv_iconst (v := 0) hx hb dK0_findSets_17 (by decide) ?_
  refine lv_aload_n hx hb dK0_findSets_18 rfl (lv_at hl 0 rfl) ?_
  refine va_get (D := D) (ci := 0) (v := .ref cha) (C := RK0) (T := TK0) (N := 10) hx hb hts inK0 hown hK hP 0 rfl rfl 3 (by decide) (hts _ wdt1_146) (fun _ h9 => h9) rfl dK0_findSets_19 ?_
  refine va_getN (D := D) (ci := 3) (v := .int chn) (C := RK3) (T := TK3) (N := 4) hx hb hts inK3 hown hK hP 14 rfl rfl 3 (by decide) (nw hN 5 rfl) (fun _ h9 => h9) rfl dK0_findSets_22 ?_
  refine lv_iload_n hx hb dK0_findSets_25 rfl (lv_at hl 3 rfl) ?_
  obtain ⟨x3, ec4, hm⟩ := bd1_s hm
  have hPc : va_P D vwCl [] H := va_P0
  have hDc : va_D A [] := va_D0
  refine k_calli0 (va_runS (As := [.int 0, .int chn, .int v3]) (rest := []) ⟨hx, hb, hml, hown, hts⟩ (kK0_nextSet l D cI cZ cB cC H.size 0 chn v3 x3 ec4) (va_cwS 3 hts (gdS wdt2_121 wdt2_122 wdt1_1 gkK0_nextSet) rfl rfl rfl (by decide +kernel) ⟨Nat.le_of_ble_eq_true rfl, Nat.le_of_ble_eq_true rfl⟩) ⟨Pr_blind, fun U hU hW => ⟨rfl, Pr_at hK hN hPc hDc hU hW⟩⟩ rfl rfl hl.1 rfl (lv_room (Nat.le_of_ble_eq_true rfl)) dK0_findSets_26 ⟨Nat.le_of_ble_eq_true rfl, Nat.le_of_ble_eq_true rfl⟩) hP hD hS hA (fun H locs hP hD hS => ?_)
  refine lv_istore (lv' := [(4, .int x3), (0, .ref oa), (1, .int v1), (2, .int v2), (3, .int v3)]) hx hb dK0_findSets_29 hl (by decide) rfl (fun ls hl => ?_)
  refine lv_iconst (v := 0) hx hb dK0_findSets_31 (by decide) ?_
  refine lv_istore (lv' := [(5, .int 0), (4, .int x3), (0, .ref oa), (1, .int v1), (2, .int v2), (3, .int v3)]) hx hb dK0_findSets_32 hl (by decide) rfl (fun ls hl => ?_)
  have lx34 : ∀ (oltx34 : Int32) (tisox34 : Int32) (tiobx34 : Nat → Int32) (timex34 : Nat → Int32) (fonx34 : Int32) (fosex34 : Nat → Int32) (fosux34 : Nat → Int32) (H : Heap) (locs : List Loc) (ls : Array Slot), mK0_findSets_A34 oltx34 tisox34 tiobx34 timex34 fonx34 fosex34 fosux34 = some (olt_r, ols_r, tiso_r, tiob_r, time_r, fon_r, fose_r, fosu_r) → va_P D vwCl (wM oa tra tra1 tra2 tra3 tia tia1 tia2 tia3 rua rua1 rua2 rua3 rua4 cha cha1 cha2 cha3 foa foa1 foa2 sba cI cZ cB cC ocs oal oltx34 0 trso trob trme trwi tisox34 tiobx34 timex34 tiwi run ruki ruta rupr runu chn chpu chco chwe fonx34 fosex34 fosux34) H → va_D A (wM oa tra tra1 tra2 tra3 tia tia1 tia2 tia3 rua rua1 rua2 rua3 rua4 cha cha1 cha2 cha3 foa foa1 foa2 sba cI cZ cB cC ocs oal oltx34 0 trso trob trme trwi tisox34 tiobx34 timex34 tiwi run ruki ruta rupr runu chn chpu chco chwe fonx34 fosex34 fosux34) → va_S A s.heap H locs → lv_has ls 6 [(0, .ref oa)] → W p l e (headSpec wsK0_findSets rmK0_findSets).room s m ([.ref oa, .int v1, .int v2, .int v3] : List Value).toArray below meth c H locs 0 0 (MQ below (QV D A (wM oa tra tra1 tra2 tra3 tia tia1 tia2 tia3 rua rua1 rua2 rua3 rua4 cha cha1 cha2 cha3 foa foa1 foa2 sba cI cZ cB cC ocs oal olt_r ols_r trso trob trme trwi tiso_r tiob_r time_r tiwi run ruki ruta rupr runu chn chpu chco chwe fon_r fose_r fosu_r)) ([.ref oa, .int v1, .int v2, .int v3] : List Value).toArray s 0 0 A) (F0 m 156 ls []) := by
    intro oltx34 tisox34 tiobx34 timex34 fonx34 fosex34 fosux34 H locs ls hm hP hD hS hl
    unfold mK0_findSets_A34 at hm
    refine lv_aload_n hx hb dK0_findSets_156 rfl (lv_at hl 0 rfl) ?_
    refine lv_iconst (v := 1) hx hb dK0_findSets_157 (by decide) ?_
    refine va_put (D := D) (ci := 0) (v := .int 1) (ty := .boolean) (C := RK0) (T := TK0) (N := 10) hx hb hts inK0 tyK0 tyK0_ok nmK0 hown hK hP hD hS 0 rfl rfl 9 (by decide) (hts _ wdt1_152) (fun _ h9 => h9) rfl (by decide +kernel) rfl rfl (Nat.le_of_ble_eq_true rfl) dK0_findSets_158 (fun H locs hP hD hS => ?_)
    have hP : va_P D vwCl (wM oa tra tra1 tra2 tra3 tia tia1 tia2 tia3 rua rua1 rua2 rua3 rua4 cha cha1 cha2 cha3 foa foa1 foa2 sba cI cZ cB cC ocs oal oltx34 1 trso trob trme trwi tisox34 tiobx34 timex34 tiwi run ruki ruta rupr runu chn chpu chco chwe fonx34 fosex34 fosux34) H := hP
    have hD : va_D A (wM oa tra tra1 tra2 tra3 tia tia1 tia2 tia3 rua rua1 rua2 rua3 rua4 cha cha1 cha2 cha3 foa foa1 foa2 sba cI cZ cB cC ocs oal oltx34 1 trso trob trme trwi tisox34 tiobx34 timex34 tiwi run ruki ruta rupr runu chn chpu chco chwe fonx34 fosex34 fosux34) := hD
    replace hm := Option.some.inj hm
    simp only [Prod.mk.injEq] at hm
    obtain ⟨rfl, rfl, rfl, rfl, rfl, rfl, rfl, rfl⟩ := hm
    exact k_retv hx hb hr hlocks hP hD hS dK0_findSets_161
  have lp34 : ∀ (n34 : Nat) (i4l34 : Int32) (i5l34 : Int32) (oltl34 : Int32) (tisol34 : Int32) (tiobl34 : Nat → Int32) (timel34 : Nat → Int32) (fonl34 : Int32) (fosel34 : Nat → Int32) (fosul34 : Nat → Int32) (H : Heap) (locs : List Loc) (ls : Array Slot), mK0_findSets_L34 oal trso trob trme ruki ruta rupr runu chn chpu chco chwe v1 v2 v3 (mK0_findSets_A34) n34 i4l34 i5l34 oltl34 tisol34 tiobl34 timel34 fonl34 fosel34 fosul34 = some (olt_r, ols_r, tiso_r, tiob_r, time_r, fon_r, fose_r, fosu_r) → va_P D vwCl (wM oa tra tra1 tra2 tra3 tia tia1 tia2 tia3 rua rua1 rua2 rua3 rua4 cha cha1 cha2 cha3 foa foa1 foa2 sba cI cZ cB cC ocs oal oltl34 0 trso trob trme trwi tisol34 tiobl34 timel34 tiwi run ruki ruta rupr runu chn chpu chco chwe fonl34 fosel34 fosul34) H → va_D A (wM oa tra tra1 tra2 tra3 tia tia1 tia2 tia3 rua rua1 rua2 rua3 rua4 cha cha1 cha2 cha3 foa foa1 foa2 sba cI cZ cB cC ocs oal oltl34 0 trso trob trme trwi tisol34 tiobl34 timel34 tiwi run ruki ruta rupr runu chn chpu chco chwe fonl34 fosel34 fosul34) → va_S A s.heap H locs → lv_has ls 6 [(5, .int i5l34), (4, .int i4l34), (0, .ref oa), (1, .int v1), (2, .int v2), (3, .int v3)] → W p l e (headSpec wsK0_findSets rmK0_findSets).room s m ([.ref oa, .int v1, .int v2, .int v3] : List Value).toArray below meth c H locs 0 0 (MQ below (QV D A (wM oa tra tra1 tra2 tra3 tia tia1 tia2 tia3 rua rua1 rua2 rua3 rua4 cha cha1 cha2 cha3 foa foa1 foa2 sba cI cZ cB cC ocs oal olt_r ols_r trso trob trme trwi tiso_r tiob_r time_r tiwi run ruki ruta rupr runu chn chpu chco chwe fon_r fose_r fosu_r)) ([.ref oa, .int v1, .int v2, .int v3] : List Value).toArray s 0 0 A) (F0 m 34 ls []) := by
    intro n34
    induction n34 with
    | zero => intro i4l34 i5l34 oltl34 tisol34 tiobl34 timel34 fonl34 fosel34 fosul34 H locs ls hm; exact nomatch (show none = _ from hm)
    | succ n34 ih34 =>
      intro i4l34 i5l34 oltl34 tisol34 tiobl34 timel34 fonl34 fosel34 fosul34 H locs ls hm hP hD hS hl
      replace hm : mK0_findSets_B34 oal trso trob trme ruki ruta rupr runu chn chpu chco chwe v1 v2 v3 (mK0_findSets_A34) (mK0_findSets_L34 oal trso trob trme ruki ruta rupr runu chn chpu chco chwe v1 v2 v3 (mK0_findSets_A34) n34) i4l34 i5l34 oltl34 tisol34 tiobl34 timel34 fonl34 fosel34 fosul34 = some (olt_r, ols_r, tiso_r, tiob_r, time_r, fon_r, fose_r, fosu_r) := hm
      unfold mK0_findSets_B34 at hm
      refine lv_iload hx hb dK0_findSets_34 (lv_at hl 0 rfl) ?_
      refine lv_sipush (v := 4096) hx hb dK0_findSets_36 (by decide) ?_
      refine lv_icmp_ge (tgt := 156) hx hb dK0_findSets_39 (by decide) (fun hc => ?_) (fun hc => ?_)
      · replace hm := ift hm hc
        exact lx34 oltl34 tisol34 tiobl34 timel34 fonl34 fosel34 fosul34 _ _ _ hm hP hD hS (lv_sub hl [2] rfl)
      · replace hm := iff_ hm hc
        refine lv_iload hx hb dK0_findSets_42 (lv_at hl 1 rfl) ?_
        refine lv_iconst (v := (-1)) hx hb dK0_findSets_44 (by decide) ?_
        refine lv_icmp_eq (tgt := 156) hx hb dK0_findSets_45 (by decide) (fun hc => ?_) (fun hc => ?_)
        · replace hm := ift hm hc
          exact lx34 oltl34 tisol34 tiobl34 timel34 fonl34 fosel34 fosul34 _ _ _ hm hP hD hS (lv_sub hl [2] rfl)
        · replace hm := iff_ hm hc
          refine lv_aload_n hx hb dK0_findSets_48 rfl (lv_at hl 2 rfl) ?_
          refine va_get (D := D) (ci := 0) (v := .ref foa) (C := RK0) (T := TK0) (N := 10) hx hb hts inK0 hown hK hP 0 rfl rfl 4 (by decide) (hts _ wdt1_147) (fun _ h9 => h9) rfl dK0_findSets_49 ?_
          refine lv_iload hx hb dK0_findSets_52 (lv_at hl 1 rfl) ?_
          obtain ⟨x5, ec6, hm⟩ := bd1_s hm
          have hPc := hP.sub (ws' := (wF foa foa1 foa2 cI cZ cB cC fonl34 fosel34 fosul34)) [18, 19, 20] rfl
          have hDc := hD.sub (ws' := (wF foa foa1 foa2 cI cZ cB cC fonl34 fosel34 fosul34)) [18, 19, 20] (by decide) rfl
          refine k_calli (wr := [(oa, .inr (0, [.ref tra, .ref tia, .ref rua, .ref cha, .ref foa, .ref sba, .int ocs, .int oal, .int oltl34, .int 0])), (tra, .inr (1, [.ref tra1, .ref tra2, .ref tra3, .int trso])), (tra1, .inl (cI, 72, .inl trob)), (tra2, .inl (cI, 12, .inl trme)), (tra3, .inl (cI, 12, .inl trwi)), (tia, .inr (1, [.ref tia1, .ref tia2, .ref tia3, .int tisol34])), (tia1, .inl (cI, 72, .inl tiobl34)), (tia2, .inl (cI, 12, .inl timel34)), (tia3, .inl (cI, 12, .inl tiwi)), (rua, .inr (2, [.ref rua1, .ref rua2, .ref rua3, .ref rua4, .int run])), (rua1, .inl (cI, 10, .inl ruki)), (rua2, .inl (cI, 10, .inl ruta)), (rua3, .inl (cI, 10, .inl rupr)), (rua4, .inl (cI, 10, .inl runu)), (cha, .inr (3, [.ref cha1, .ref cha2, .ref cha3, .int chn])), (cha1, .inl (cZ, 12, .inl chpu)), (cha2, .inl (cI, 12, .inl chco)), (cha3, .inl (cI, 12, .inl chwe))]) (w1 := (wF foa foa1 foa2 cI cZ cB cC fonl34 fosel34 fosul34)) (ws' := (wM oa tra tra1 tra2 tra3 tia tia1 tia2 tia3 rua rua1 rua2 rua3 rua4 cha cha1 cha2 cha3 foa foa1 foa2 sba cI cZ cB cC ocs oal oltl34 0 trso trob trme trwi tisol34 tiobl34 timel34 tiwi run ruki ruta rupr runu chn chpu chco chwe fonl34 fosel34 fosul34)) (va_runV (As := [.int i4l34]) (rest := []) ⟨hx, hb, hml, hown, hts⟩ (kK4_hasPartOf l D cI cZ cB cC H.size foa foa1 foa2 fonl34 fosel34 fosul34 i4l34 x5 ec6) (cwV 1 hts (gdV wdt2_127 wdt2_128 wdt2_129 wdt1_5 gkK4_hasPartOf) rfl rfl rfl (by decide +kernel) ⟨Nat.le_of_ble_eq_true rfl, Nat.le_of_ble_eq_true rfl⟩) ⟨Pr_blind, va_recv hK hPc (ci := 4) (q0 := 0) rfl rfl, fun U hU hW => ⟨rfl, Pr_at hK hN hPc hDc hU hW⟩⟩ rfl rfl hl.1 rfl (lv_room (Nat.le_of_ble_eq_true rfl)) dK0_findSets_54 ⟨Nat.le_of_ble_eq_true rfl, Nat.le_of_ble_eq_true rfl⟩) hP hD hS hA [18, 19, 20] [0, 1, 2, 3, 4, 5, 6, 7, 8, 9, 10, 11, 12, 13, 14, 15, 16, 17] [0, 1, 2, 3, 4, 5, 6, 7, 8, 9, 10, 11, 12, 13, 14, 15, 16, 17, 18, 19, 20] rfl rfl (by decide) (by decide) (by decide) rfl (fun H locs hP hD hS => ?_)
          refine lv_if_ne (tgt := 135) hx hb dK0_findSets_57 (by decide) (fun hc => ?_) (fun hc => ?_)
          · replace hm := iff_ hm hc
            refine lv_iload hx hb dK0_findSets_135 (lv_at hl 1 rfl) ?_
            refine lv_aload_n hx hb dK0_findSets_137 rfl (lv_at hl 2 rfl) ?_
            refine va_get (D := D) (ci := 0) (v := .ref cha) (C := RK0) (T := TK0) (N := 10) hx hb hts inK0 hown hK hP 0 rfl rfl 3 (by decide) (hts _ wdt1_146) (fun _ h9 => h9) rfl dK0_findSets_138 ?_
            refine va_getN (D := D) (ci := 3) (v := .int chn) (C := RK3) (T := TK3) (N := 4) hx hb hts inK3 hown hK hP 14 rfl rfl 3 (by decide) (nw hN 5 rfl) (fun _ h9 => h9) rfl dK0_findSets_141 ?_
            refine lv_iload_n hx hb dK0_findSets_144 rfl (lv_at hl 5 rfl) ?_
            obtain ⟨x7, ec8, hm⟩ := bd1_s hm
            have hPc : va_P D vwCl [] H := va_P0
            have hDc : va_D A [] := va_D0
            refine k_calli0 (va_runS (As := [.int i4l34, .int chn, .int v3]) (rest := []) ⟨hx, hb, hml, hown, hts⟩ (kK0_nextSet l D cI cZ cB cC H.size i4l34 chn v3 x7 ec8) (va_cwS 3 hts (gdS wdt2_121 wdt2_122 wdt1_1 gkK0_nextSet) rfl rfl rfl (by decide +kernel) ⟨Nat.le_of_ble_eq_true rfl, Nat.le_of_ble_eq_true rfl⟩) ⟨Pr_blind, fun U hU hW => ⟨rfl, Pr_at hK hN hPc hDc hU hW⟩⟩ rfl rfl hl.1 rfl (lv_room (Nat.le_of_ble_eq_true rfl)) dK0_findSets_145 ⟨Nat.le_of_ble_eq_true rfl, Nat.le_of_ble_eq_true rfl⟩) hP hD hS hA (fun H locs hP hD hS => ?_)
            refine lv_istore (lv' := [(4, .int x7), (5, .int i5l34), (0, .ref oa), (1, .int v1), (2, .int v2), (3, .int v3)]) hx hb dK0_findSets_148 hl (by decide) rfl (fun ls hl => ?_)
            obtain ⟨x9, ex9, hm⟩ := bd1_s hm
            refine lv_iinc (v := x9) (lv' := [(5, .int x9), (4, .int x7), (0, .ref oa), (1, .int v1), (2, .int v2), (3, .int v3)]) hx hb dK0_findSets_150 hl (k := 1) rfl (by rw [← Option.some.inj ex9]; rfl) (by decide) rfl (fun ls hl => ?_)
            refine lv_goto (tgt := 34) hx hb dK0_findSets_153 (by decide) ?_
            exact ih34 x7 x9 oltl34 tisol34 tiobl34 timel34 fonl34 fosel34 fosul34 _ _ _ hm hP hD hS (lv_sub hl [0, 1, 2, 3, 4, 5] rfl)
          · replace hm := ift hm hc
            refine lv_aload_n hx hb dK0_findSets_60 rfl (lv_at hl 2 rfl) ?_
            refine va_get (D := D) (ci := 0) (v := .int oltl34) (C := RK0) (T := TK0) (N := 10) hx hb hts inK0 hown hK hP 0 rfl rfl 8 (by decide) (hts _ wdt1_151) (fun _ h9 => h9) rfl dK0_findSets_61 ?_
            refine lv_aload_n hx hb dK0_findSets_64 rfl (lv_at hl 2 rfl) ?_
            refine va_get (D := D) (ci := 0) (v := .int oal) (C := RK0) (T := TK0) (N := 10) hx hb hts inK0 hown hK hP 0 rfl rfl 7 (by decide) (hts _ wdt1_150) (fun _ h9 => h9) rfl dK0_findSets_65 ?_
            refine lv_icmp_lt (tgt := 72) hx hb dK0_findSets_68 (by decide) (fun hc => ?_) (fun hc => ?_)
            · replace hm := ift hm hc
              refine lv_aload_n hx hb dK0_findSets_72 rfl (lv_at hl 2 rfl) ?_
              refine lv_dup hx hb dK0_findSets_73 rfl ?_
              refine va_get (D := D) (ci := 0) (v := .int oltl34) (C := RK0) (T := TK0) (N := 10) hx hb hts inK0 hown hK hP 0 rfl rfl 8 (by decide) (hts _ wdt1_151) (fun _ h9 => h9) rfl dK0_findSets_74 ?_
              refine lv_iconst (v := 1) hx hb dK0_findSets_77 (by decide) ?_
              refine lv_iadd hx hb dK0_findSets_78 ?_
              obtain ⟨x10, ex10, hm⟩ := bd1_s hm
              refine topi (Option.some.inj ex10) ?_
              refine va_put (D := D) (ci := 0) (v := .int x10) (ty := .int) (C := RK0) (T := TK0) (N := 10) hx hb hts inK0 tyK0 tyK0_ok nmK0 hown hK hP hD hS 0 rfl rfl 8 (by decide) (hts _ wdt1_151) (fun _ h9 => h9) rfl (by decide +kernel) rfl rfl (Nat.le_of_ble_eq_true rfl) dK0_findSets_79 (fun H locs hP hD hS => ?_)
              have hP : va_P D vwCl (wM oa tra tra1 tra2 tra3 tia tia1 tia2 tia3 rua rua1 rua2 rua3 rua4 cha cha1 cha2 cha3 foa foa1 foa2 sba cI cZ cB cC ocs oal x10 0 trso trob trme trwi tisol34 tiobl34 timel34 tiwi run ruki ruta rupr runu chn chpu chco chwe fonl34 fosel34 fosul34) H := hP
              have hD : va_D A (wM oa tra tra1 tra2 tra3 tia tia1 tia2 tia3 rua rua1 rua2 rua3 rua4 cha cha1 cha2 cha3 foa foa1 foa2 sba cI cZ cB cC ocs oal x10 0 trso trob trme trwi tisol34 tiobl34 timel34 tiwi run ruki ruta rupr runu chn chpu chco chwe fonl34 fosel34 fosul34) := hD
              refine lv_aload_n hx hb dK0_findSets_82 rfl (lv_at hl 2 rfl) ?_
              refine lv_iload hx hb dK0_findSets_83 (lv_at hl 1 rfl) ?_
              obtain ⟨x11, x12, x13, ec14, hm⟩ := bd3_s hm
              have hPc := hP.sub (ws' := (wM oa tra tra1 tra2 tra3 tia tia1 tia2 tia3 rua rua1 rua2 rua3 rua4 cha cha1 cha2 cha3 foa foa1 foa2 sba cI cZ cB cC ocs oal x10 0 trso trob trme trwi tisol34 tiobl34 timel34 tiwi run ruki ruta rupr runu chn chpu chco chwe fonl34 fosel34 fosul34)) [0, 1, 2, 3, 4, 5, 6, 7, 8, 9, 10, 11, 12, 13, 14, 15, 16, 17, 18, 19, 20] rfl
              have hDc := hD.sub (ws' := (wM oa tra tra1 tra2 tra3 tia tia1 tia2 tia3 rua rua1 rua2 rua3 rua4 cha cha1 cha2 cha3 foa foa1 foa2 sba cI cZ cB cC ocs oal x10 0 trso trob trme trwi tisol34 tiobl34 timel34 tiwi run ruki ruta rupr runu chn chpu chco chwe fonl34 fosel34 fosul34)) [0, 1, 2, 3, 4, 5, 6, 7, 8, 9, 10, 11, 12, 13, 14, 15, 16, 17, 18, 19, 20] (by decide) rfl
              refine k_callv (wr := []) (w1 := (wM oa tra tra1 tra2 tra3 tia tia1 tia2 tia3 rua rua1 rua2 rua3 rua4 cha cha1 cha2 cha3 foa foa1 foa2 sba cI cZ cB cC ocs oal x10 0 trso trob trme trwi x11 x12 x13 tiwi run ruki ruta rupr runu chn chpu chco chwe fonl34 fosel34 fosul34)) (ws' := (wM oa tra tra1 tra2 tra3 tia tia1 tia2 tia3 rua rua1 rua2 rua3 rua4 cha cha1 cha2 cha3 foa foa1 foa2 sba cI cZ cB cC ocs oal x10 0 trso trob trme trwi x11 x12 x13 tiwi run ruki ruta rupr runu chn chpu chco chwe fonl34 fosel34 fosul34)) (va_runV (As := [.int i4l34]) (rest := []) ⟨hx, hb, hml, hown, hts⟩ (kK0_tryOut l D cI cZ cB cC H.size oa tra tra1 tra2 tra3 tia tia1 tia2 tia3 rua rua1 rua2 rua3 rua4 cha cha1 cha2 cha3 foa foa1 foa2 sba ocs oal x10 0 trso trob trme trwi tisol34 tiobl34 timel34 tiwi run ruki ruta rupr runu chn chpu chco chwe fonl34 fosel34 fosul34 i4l34 x11 x12 x13 ec14) (cwV 1 hts (gdV wdt2_131 wdt2_133 wds1_9 wdt1_1 gkK0_tryOut) rfl rfl rfl (by decide +kernel) ⟨Nat.le_of_ble_eq_true rfl, Nat.le_of_ble_eq_true rfl⟩) ⟨Pr_blind, va_recv hK hPc (ci := 0) (q0 := 0) rfl rfl, fun U hU hW => ⟨rfl, Pr_at hK hN hPc hDc hU hW⟩⟩ rfl rfl hl.1 rfl (lv_room (Nat.le_of_ble_eq_true rfl)) dK0_findSets_85 ⟨Nat.le_of_ble_eq_true rfl, Nat.le_of_ble_eq_true rfl⟩) hP hD hS hA [0, 1, 2, 3, 4, 5, 6, 7, 8, 9, 10, 11, 12, 13, 14, 15, 16, 17, 18, 19, 20] [] [0, 1, 2, 3, 4, 5, 6, 7, 8, 9, 10, 11, 12, 13, 14, 15, 16, 17, 18, 19, 20] rfl rfl (by decide) (by decide) (by decide) rfl (fun H locs hP hD hS => ?_)
              refine lv_aload_n hx hb dK0_findSets_88 rfl (lv_at hl 2 rfl) ?_
              refine va_get (D := D) (ci := 0) (v := .ref rua) (C := RK0) (T := TK0) (N := 10) hx hb hts inK0 hown hK hP 0 rfl rfl 2 (by decide) (hts _ wdt1_145) (fun _ h9 => h9) rfl dK0_findSets_89 ?_
              refine lv_aload_n hx hb dK0_findSets_92 rfl (lv_at hl 2 rfl) ?_
              refine va_get (D := D) (ci := 0) (v := .ref tia) (C := RK0) (T := TK0) (N := 10) hx hb hts inK0 hown hK hP 0 rfl rfl 1 (by decide) (hts _ wdt1_144) (fun _ h9 => h9) rfl dK0_findSets_93 ?_
              refine lv_iload_n hx hb dK0_findSets_96 rfl (lv_at hl 3 rfl) ?_
              refine lv_iload_n hx hb dK0_findSets_97 rfl (lv_at hl 4 rfl) ?_
              obtain ⟨x15, ec16, hm⟩ := bd1_s hm
              have hPc := hP.sub (ws' := (wRT rua rua1 rua2 rua3 rua4 tia tia1 tia2 tia3 cI cZ cB cC run ruki ruta rupr runu x11 x12 x13 tiwi)) [9, 10, 11, 12, 13, 5, 6, 7, 8] rfl
              have hDc := hD.sub (ws' := (wRT rua rua1 rua2 rua3 rua4 tia tia1 tia2 tia3 cI cZ cB cC run ruki ruta rupr runu x11 x12 x13 tiwi)) [9, 10, 11, 12, 13, 5, 6, 7, 8] (by decide) rfl
              refine k_calli (wr := [(oa, .inr (0, [.ref tra, .ref tia, .ref rua, .ref cha, .ref foa, .ref sba, .int ocs, .int oal, .int x10, .int 0])), (tra, .inr (1, [.ref tra1, .ref tra2, .ref tra3, .int trso])), (tra1, .inl (cI, 72, .inl trob)), (tra2, .inl (cI, 12, .inl trme)), (tra3, .inl (cI, 12, .inl trwi)), (cha, .inr (3, [.ref cha1, .ref cha2, .ref cha3, .int chn])), (cha1, .inl (cZ, 12, .inl chpu)), (cha2, .inl (cI, 12, .inl chco)), (cha3, .inl (cI, 12, .inl chwe)), (foa, .inr (4, [.ref foa1, .ref foa2, .int fonl34])), (foa1, .inl (cI, 30, .inl fosel34)), (foa2, .inl (cI, 30, .inl fosul34))]) (w1 := (wRT rua rua1 rua2 rua3 rua4 tia tia1 tia2 tia3 cI cZ cB cC run ruki ruta rupr runu x11 x12 x13 tiwi)) (ws' := (wM oa tra tra1 tra2 tra3 tia tia1 tia2 tia3 rua rua1 rua2 rua3 rua4 cha cha1 cha2 cha3 foa foa1 foa2 sba cI cZ cB cC ocs oal x10 0 trso trob trme trwi x11 x12 x13 tiwi run ruki ruta rupr runu chn chpu chco chwe fonl34 fosel34 fosul34)) (va_runV (As := [.ref tia, .int v1, .int v2]) (rest := []) ⟨hx, hb, hml, hown, hts⟩ (kK2_fails l D cI cZ cB cC H.size rua rua1 rua2 rua3 rua4 tia tia1 tia2 tia3 run ruki ruta rupr runu x11 x12 x13 tiwi v1 v2 x15 ec16) (cwV 3 hts (gdV wdt2_83 wdt2_84 wdt2_85 wdt1_3 gkK2_fails) rfl rfl rfl (by decide +kernel) ⟨Nat.le_of_ble_eq_true rfl, Nat.le_of_ble_eq_true rfl⟩) ⟨Pr_blind, va_recv hK hPc (ci := 2) (q0 := 0) rfl rfl, fun U hU hW => ⟨rfl, Pr_at hK hN hPc hDc hU hW⟩⟩ rfl rfl hl.1 rfl (lv_room (Nat.le_of_ble_eq_true rfl)) dK0_findSets_98 ⟨Nat.le_of_ble_eq_true rfl, Nat.le_of_ble_eq_true rfl⟩) hP hD hS hA [9, 10, 11, 12, 13, 5, 6, 7, 8] [0, 1, 2, 3, 4, 14, 15, 16, 17, 18, 19, 20] [0, 1, 2, 3, 4, 17, 18, 19, 20, 12, 13, 14, 15, 16, 5, 6, 7, 8, 9, 10, 11] rfl rfl (by decide) (by decide) (by decide) rfl (fun H locs hP hD hS => ?_)
              have jn122 : ∀ (fonj122 : Int32) (fosej122 : Nat → Int32) (fosuj122 : Nat → Int32) (H : Heap) (locs : List Loc) (ls : Array Slot), mK0_findSets_J122 chn v3 i4l34 i5l34 (mK0_findSets_L34 oal trso trob trme ruki ruta rupr runu chn chpu chco chwe v1 v2 v3 (mK0_findSets_A34) n34) x10 x11 x12 x13 fonj122 fosej122 fosuj122 = some (olt_r, ols_r, tiso_r, tiob_r, time_r, fon_r, fose_r, fosu_r) → va_P D vwCl (wM oa tra tra1 tra2 tra3 tia tia1 tia2 tia3 rua rua1 rua2 rua3 rua4 cha cha1 cha2 cha3 foa foa1 foa2 sba cI cZ cB cC ocs oal x10 0 trso trob trme trwi x11 x12 x13 tiwi run ruki ruta rupr runu chn chpu chco chwe fonj122 fosej122 fosuj122) H → va_D A (wM oa tra tra1 tra2 tra3 tia tia1 tia2 tia3 rua rua1 rua2 rua3 rua4 cha cha1 cha2 cha3 foa foa1 foa2 sba cI cZ cB cC ocs oal x10 0 trso trob trme trwi x11 x12 x13 tiwi run ruki ruta rupr runu chn chpu chco chwe fonj122 fosej122 fosuj122) → va_S A s.heap H locs → lv_has ls 6 [(0, .ref oa), (1, .int v1), (2, .int v2), (3, .int v3), (4, .int i4l34), (5, .int i5l34)] → W p l e (headSpec wsK0_findSets rmK0_findSets).room s m ([.ref oa, .int v1, .int v2, .int v3] : List Value).toArray below meth c H locs 0 0 (MQ below (QV D A (wM oa tra tra1 tra2 tra3 tia tia1 tia2 tia3 rua rua1 rua2 rua3 rua4 cha cha1 cha2 cha3 foa foa1 foa2 sba cI cZ cB cC ocs oal olt_r ols_r trso trob trme trwi tiso_r tiob_r time_r tiwi run ruki ruta rupr runu chn chpu chco chwe fon_r fose_r fosu_r)) ([.ref oa, .int v1, .int v2, .int v3] : List Value).toArray s 0 0 A) (F0 m 122 ls []) := by
                intro fonj122 fosej122 fosuj122 H locs ls hm hP hD hS hl
                unfold mK0_findSets_J122 at hm
                refine lv_aload_n hx hb dK0_findSets_122 rfl (lv_at hl 0 rfl) ?_
                refine va_get (D := D) (ci := 0) (v := .ref foa) (C := RK0) (T := TK0) (N := 10) hx hb hts inK0 hown hK hP 0 rfl rfl 4 (by decide) (hts _ wdt1_147) (fun _ h9 => h9) rfl dK0_findSets_123 ?_
                refine va_getN (D := D) (ci := 4) (v := .int fonj122) (C := RK4) (T := TK4) (N := 3) hx hb hts inK4 hown hK hP 18 rfl rfl 2 (by decide) (nw hN 6 rfl) (fun _ h9 => h9) rfl dK0_findSets_126 ?_
                refine lv_bipush (v := 30) hx hb dK0_findSets_129 (by decide) ?_
                refine lv_icmp_lt (tgt := 135) hx hb dK0_findSets_131 (by decide) (fun hc => ?_) (fun hc => ?_)
                · replace hm := ift hm hc
                  refine lv_iload hx hb dK0_findSets_135 (lv_at hl 4 rfl) ?_
                  refine lv_aload_n hx hb dK0_findSets_137 rfl (lv_at hl 0 rfl) ?_
                  refine va_get (D := D) (ci := 0) (v := .ref cha) (C := RK0) (T := TK0) (N := 10) hx hb hts inK0 hown hK hP 0 rfl rfl 3 (by decide) (hts _ wdt1_146) (fun _ h9 => h9) rfl dK0_findSets_138 ?_
                  refine va_getN (D := D) (ci := 3) (v := .int chn) (C := RK3) (T := TK3) (N := 4) hx hb hts inK3 hown hK hP 14 rfl rfl 3 (by decide) (nw hN 5 rfl) (fun _ h9 => h9) rfl dK0_findSets_141 ?_
                  refine lv_iload_n hx hb dK0_findSets_144 rfl (lv_at hl 3 rfl) ?_
                  obtain ⟨x17, ec18, hm⟩ := bd1_s hm
                  have hPc : va_P D vwCl [] H := va_P0
                  have hDc : va_D A [] := va_D0
                  refine k_calli0 (va_runS (As := [.int i4l34, .int chn, .int v3]) (rest := []) ⟨hx, hb, hml, hown, hts⟩ (kK0_nextSet l D cI cZ cB cC H.size i4l34 chn v3 x17 ec18) (va_cwS 3 hts (gdS wdt2_121 wdt2_122 wdt1_1 gkK0_nextSet) rfl rfl rfl (by decide +kernel) ⟨Nat.le_of_ble_eq_true rfl, Nat.le_of_ble_eq_true rfl⟩) ⟨Pr_blind, fun U hU hW => ⟨rfl, Pr_at hK hN hPc hDc hU hW⟩⟩ rfl rfl hl.1 rfl (lv_room (Nat.le_of_ble_eq_true rfl)) dK0_findSets_145 ⟨Nat.le_of_ble_eq_true rfl, Nat.le_of_ble_eq_true rfl⟩) hP hD hS hA (fun H locs hP hD hS => ?_)
                  refine lv_istore (lv' := [(4, .int x17), (0, .ref oa), (1, .int v1), (2, .int v2), (3, .int v3), (5, .int i5l34)]) hx hb dK0_findSets_148 hl (by decide) rfl (fun ls hl => ?_)
                  obtain ⟨x19, ex19, hm⟩ := bd1_s hm
                  refine lv_iinc (v := x19) (lv' := [(5, .int x19), (4, .int x17), (0, .ref oa), (1, .int v1), (2, .int v2), (3, .int v3)]) hx hb dK0_findSets_150 hl (k := 5) rfl (by rw [← Option.some.inj ex19]; rfl) (by decide) rfl (fun ls hl => ?_)
                  refine lv_goto (tgt := 34) hx hb dK0_findSets_153 (by decide) ?_
                  exact ih34 x17 x19 x10 x11 x12 x13 fonj122 fosej122 fosuj122 _ _ _ hm hP hD hS (lv_sub hl [0, 1, 2, 3, 4, 5] rfl)
                · replace hm := iff_ hm hc
                  replace hm := Option.some.inj hm
                  simp only [Prod.mk.injEq] at hm
                  obtain ⟨rfl, rfl, rfl, rfl, rfl, rfl, rfl, rfl⟩ := hm
                  exact k_retv hx hb hr hlocks hP hD hS dK0_findSets_134
              refine lv_if_ne (tgt := 122) hx hb dK0_findSets_101 (by decide) (fun hc => ?_) (fun hc => ?_)
              · replace hm := iff_ hm hc
                exact jn122 fonl34 fosel34 fosul34 _ _ _ hm hP hD hS (lv_sub hl [2, 3, 4, 5, 1, 0] rfl)
              · replace hm := ift hm hc
                refine lv_aload_n hx hb dK0_findSets_104 rfl (lv_at hl 2 rfl) ?_
                refine va_get (D := D) (ci := 0) (v := .ref foa) (C := RK0) (T := TK0) (N := 10) hx hb hts inK0 hown hK hP 0 rfl rfl 4 (by decide) (hts _ wdt1_147) (fun _ h9 => h9) rfl dK0_findSets_105 ?_
                refine lv_iload hx hb dK0_findSets_108 (lv_at hl 1 rfl) ?_
                refine lv_aload_n hx hb dK0_findSets_110 rfl (lv_at hl 2 rfl) ?_
                refine va_get (D := D) (ci := 0) (v := .ref cha) (C := RK0) (T := TK0) (N := 10) hx hb hts inK0 hown hK hP 0 rfl rfl 3 (by decide) (hts _ wdt1_146) (fun _ h9 => h9) rfl dK0_findSets_111 ?_
                refine lv_iload hx hb dK0_findSets_114 (lv_at hl 1 rfl) ?_
                obtain ⟨x20, ec21, hm⟩ := bd1_s hm
                have hPc := hP.sub (ws' := (wC cha cha1 cha2 cha3 cI cZ cB cC chn chpu chco chwe)) [14, 15, 16, 17] rfl
                have hDc := hD.sub (ws' := (wC cha cha1 cha2 cha3 cI cZ cB cC chn chpu chco chwe)) [14, 15, 16, 17] (by decide) rfl
                refine k_calli (wr := [(oa, .inr (0, [.ref tra, .ref tia, .ref rua, .ref cha, .ref foa, .ref sba, .int ocs, .int oal, .int x10, .int 0])), (tra, .inr (1, [.ref tra1, .ref tra2, .ref tra3, .int trso])), (tra1, .inl (cI, 72, .inl trob)), (tra2, .inl (cI, 12, .inl trme)), (tra3, .inl (cI, 12, .inl trwi)), (tia, .inr (1, [.ref tia1, .ref tia2, .ref tia3, .int x11])), (tia1, .inl (cI, 72, .inl x12)), (tia2, .inl (cI, 12, .inl x13)), (tia3, .inl (cI, 12, .inl tiwi)), (rua, .inr (2, [.ref rua1, .ref rua2, .ref rua3, .ref rua4, .int run])), (rua1, .inl (cI, 10, .inl ruki)), (rua2, .inl (cI, 10, .inl ruta)), (rua3, .inl (cI, 10, .inl rupr)), (rua4, .inl (cI, 10, .inl runu)), (foa, .inr (4, [.ref foa1, .ref foa2, .int fonl34])), (foa1, .inl (cI, 30, .inl fosel34)), (foa2, .inl (cI, 30, .inl fosul34))]) (w1 := (wC cha cha1 cha2 cha3 cI cZ cB cC chn chpu chco chwe)) (ws' := (wM oa tra tra1 tra2 tra3 tia tia1 tia2 tia3 rua rua1 rua2 rua3 rua4 cha cha1 cha2 cha3 foa foa1 foa2 sba cI cZ cB cC ocs oal x10 0 trso trob trme trwi x11 x12 x13 tiwi run ruki ruta rupr runu chn chpu chco chwe fonl34 fosel34 fosul34)) (va_runV (As := [.int i4l34]) (rest := [.int i4l34, .ref foa]) ⟨hx, hb, hml, hown, hts⟩ (kK3_weightOf l D cI cZ cB cC H.size cha cha1 cha2 cha3 chn chpu chco chwe i4l34 x20 ec21) (cwV 1 hts (gdV wdt2_148 wdt2_149 wdt2_150 wdt1_4 gkK3_weightOf) rfl rfl rfl (by decide +kernel) ⟨Nat.le_of_ble_eq_true rfl, Nat.le_of_ble_eq_true rfl⟩) ⟨Pr_blind, va_recv hK hPc (ci := 3) (q0 := 0) rfl rfl, fun U hU hW => ⟨rfl, Pr_at hK hN hPc hDc hU hW⟩⟩ rfl rfl hl.1 rfl (lv_room (Nat.le_of_ble_eq_true rfl)) dK0_findSets_116 ⟨Nat.le_of_ble_eq_true rfl, Nat.le_of_ble_eq_true rfl⟩) hP hD hS hA [14, 15, 16, 17] [0, 1, 2, 3, 4, 5, 6, 7, 8, 9, 10, 11, 12, 13, 18, 19, 20] [0, 1, 2, 3, 4, 5, 6, 7, 8, 9, 10, 11, 12, 13, 17, 18, 19, 20, 14, 15, 16] rfl rfl (by decide) (by decide) (by decide) rfl (fun H locs hP hD hS => ?_)
                obtain ⟨x22, x23, x24, ec25, hm⟩ := bd3_s hm
                have hPc := hP.sub (ws' := (wF foa foa1 foa2 cI cZ cB cC fonl34 fosel34 fosul34)) [18, 19, 20] rfl
                have hDc := hD.sub (ws' := (wF foa foa1 foa2 cI cZ cB cC fonl34 fosel34 fosul34)) [18, 19, 20] (by decide) rfl
                refine k_callv (wr := [(oa, .inr (0, [.ref tra, .ref tia, .ref rua, .ref cha, .ref foa, .ref sba, .int ocs, .int oal, .int x10, .int 0])), (tra, .inr (1, [.ref tra1, .ref tra2, .ref tra3, .int trso])), (tra1, .inl (cI, 72, .inl trob)), (tra2, .inl (cI, 12, .inl trme)), (tra3, .inl (cI, 12, .inl trwi)), (tia, .inr (1, [.ref tia1, .ref tia2, .ref tia3, .int x11])), (tia1, .inl (cI, 72, .inl x12)), (tia2, .inl (cI, 12, .inl x13)), (tia3, .inl (cI, 12, .inl tiwi)), (rua, .inr (2, [.ref rua1, .ref rua2, .ref rua3, .ref rua4, .int run])), (rua1, .inl (cI, 10, .inl ruki)), (rua2, .inl (cI, 10, .inl ruta)), (rua3, .inl (cI, 10, .inl rupr)), (rua4, .inl (cI, 10, .inl runu)), (cha, .inr (3, [.ref cha1, .ref cha2, .ref cha3, .int chn])), (cha1, .inl (cZ, 12, .inl chpu)), (cha2, .inl (cI, 12, .inl chco)), (cha3, .inl (cI, 12, .inl chwe))]) (w1 := (wF foa foa1 foa2 cI cZ cB cC x22 x23 x24)) (ws' := (wM oa tra tra1 tra2 tra3 tia tia1 tia2 tia3 rua rua1 rua2 rua3 rua4 cha cha1 cha2 cha3 foa foa1 foa2 sba cI cZ cB cC ocs oal x10 0 trso trob trme trwi x11 x12 x13 tiwi run ruki ruta rupr runu chn chpu chco chwe x22 x23 x24)) (va_runV (As := [.int i4l34, .int x20]) (rest := []) ⟨hx, hb, hml, hown, hts⟩ (kK4_add l D cI cZ cB cC H.size foa foa1 foa2 fonl34 fosel34 fosul34 i4l34 x20 x22 x23 x24 ec25) (cwV 2 hts (gdV wdt2_152 wdt2_153 wdt2_154 wdt1_5 gkK4_add) rfl rfl rfl (by decide +kernel) ⟨Nat.le_of_ble_eq_true rfl, Nat.le_of_ble_eq_true rfl⟩) ⟨Pr_blind, va_recv hK hPc (ci := 4) (q0 := 0) rfl rfl, fun U hU hW => ⟨rfl, Pr_at hK hN hPc hDc hU hW⟩⟩ rfl rfl hl.1 rfl (lv_room (Nat.le_of_ble_eq_true rfl)) dK0_findSets_119 ⟨Nat.le_of_ble_eq_true rfl, Nat.le_of_ble_eq_true rfl⟩) hP hD hS hA [18, 19, 20] [0, 1, 2, 3, 4, 5, 6, 7, 8, 9, 10, 11, 12, 13, 14, 15, 16, 17] [0, 1, 2, 3, 4, 5, 6, 7, 8, 9, 10, 11, 12, 13, 14, 15, 16, 17, 18, 19, 20] rfl rfl (by decide) (by decide) (by decide) rfl (fun H locs hP hD hS => ?_)
                exact jn122 x22 x23 x24 _ _ _ hm hP hD hS (lv_sub hl [2, 3, 4, 5, 1, 0] rfl)
            · replace hm := iff_ hm hc
              replace hm := Option.some.inj hm
              simp only [Prod.mk.injEq] at hm
              obtain ⟨rfl, rfl, rfl, rfl, rfl, rfl, rfl, rfl⟩ := hm
              exact k_retv hx hb hr hlocks hP hD hS dK0_findSets_71
  exact lp34 5000 x3 0 0 tiso tiob time x1 fose fosu _ _ _ hm hP hD hS (lv_sub hl [0, 1, 2, 3, 4, 5] rfl)
