def mK0_lightestCover_A21 (i2x21 : Int32) (oltx21 : Int32) (tisox21 : Int32) (tiobx21 : Nat → Int32) (timex21 : Nat → Int32) : Option (Int32 × Int32 × Int32 × Int32 × (Nat → Int32) × (Nat → Int32)) :=
  some (i2x21, oltx21, 1, tisox21, tiobx21, timex21)
def mK0_lightestCover_B21 (oal : Int32) (trso : Int32) (trob : Nat → Int32) (trme : Nat → Int32) (run : Int32) (ruki : Nat → Int32) (ruta : Nat → Int32) (rupr : Nat → Int32) (runu : Nat → Int32) (chn : Int32) (chpu : Nat → Int32) (chco : Nat → Int32) (chwe : Nat → Int32) (v1 : Int32) (kx21 : Int32 → Int32 → Int32 → (Nat → Int32) → (Nat → Int32) → (Option (Int32 × Int32 × Int32 × Int32 × (Nat → Int32) × (Nat → Int32)))) (rc21 : Int32 → Int32 → Int32 → Int32 → Int32 → Int32 → (Nat → Int32) → (Nat → Int32) → (Option (Int32 × Int32 × Int32 × Int32 × (Nat → Int32) × (Nat → Int32)))) (i2l21 : Int32) (i3l21 : Int32) (i4l21 : Int32) (i5l21 : Int32) (oltl21 : Int32) (tisol21 : Int32) (tiobl21 : Nat → Int32) (timel21 : Nat → Int32) : Option (Int32 × Int32 × Int32 × Int32 × (Nat → Int32) × (Nat → Int32)) :=
  if 4096 ≤ i5l21 then
  (kx21 i2l21 oltl21 tisol21 tiobl21 timel21)
  else
  (if i4l21 = ((-1)) then
    (kx21 i2l21 oltl21 tisol21 tiobl21 timel21)
    else
    (if oltl21 < oal then
      (bd1 (some (oltl21 + 1)) fun x1 => bd1 (mK3_weightOf chn chwe i4l21) fun x2 => if i3l21 ≤ x2 then
        (bd1 (mK0_nextSet i4l21 chn v1) fun x4 => bd1 (some (i5l21 + 1)) fun x6 => rc21 i2l21 i3l21 x4 x6 x1 tisol21 tiobl21 timel21)
        else
        (bd4 (mK0_putsAllRight trso trob trme tisol21 tiobl21 timel21 run ruki ruta rupr runu chn chpu chco i4l21) fun x7 x8 x9 x10 => if x7 = 0 then
          (bd1 (mK0_nextSet i4l21 chn v1) fun x12 => bd1 (some (i5l21 + 1)) fun x14 => rc21 i2l21 i3l21 x12 x14 x1 x8 x9 x10)
          else
          (bd1 (mK0_nextSet i4l21 chn v1) fun x15 => bd1 (some (i5l21 + 1)) fun x17 => rc21 i4l21 x2 x15 x17 x1 x8 x9 x10)))
      else
      (some (i2l21, oltl21, 0, tisol21, tiobl21, timel21))))
def mK0_lightestCover_L21 (oal : Int32) (trso : Int32) (trob : Nat → Int32) (trme : Nat → Int32) (run : Int32) (ruki : Nat → Int32) (ruta : Nat → Int32) (rupr : Nat → Int32) (runu : Nat → Int32) (chn : Int32) (chpu : Nat → Int32) (chco : Nat → Int32) (chwe : Nat → Int32) (v1 : Int32) (kx21 : Int32 → Int32 → Int32 → (Nat → Int32) → (Nat → Int32) → (Option (Int32 × Int32 × Int32 × Int32 × (Nat → Int32) × (Nat → Int32)))) : Nat → Int32 → Int32 → Int32 → Int32 → Int32 → Int32 → (Nat → Int32) → (Nat → Int32) → (Option (Int32 × Int32 × Int32 × Int32 × (Nat → Int32) × (Nat → Int32)))
  | 0, _, _, _, _, _, _, _, _ => none
  | n + 1, i2l21, i3l21, i4l21, i5l21, oltl21, tisol21, tiobl21, timel21 => mK0_lightestCover_B21 oal trso trob trme run ruki ruta rupr runu chn chpu chco chwe v1 kx21 (mK0_lightestCover_L21 oal trso trob trme run ruki ruta rupr runu chn chpu chco chwe v1 kx21 n) i2l21 i3l21 i4l21 i5l21 oltl21 tisol21 tiobl21 timel21
def mK0_lightestCover (oal : Int32) (olt : Int32) (ols : Int32) (trso : Int32) (trob : Nat → Int32) (trme : Nat → Int32) (tiso : Int32) (tiob : Nat → Int32) (time : Nat → Int32) (run : Int32) (ruki : Nat → Int32) (ruta : Nat → Int32) (rupr : Nat → Int32) (runu : Nat → Int32) (chn : Int32) (chpu : Nat → Int32) (chco : Nat → Int32) (chwe : Nat → Int32) (v1 : Int32) : Option (Int32 × Int32 × Int32 × Int32 × (Nat → Int32) × (Nat → Int32)) :=
  mK0_lightestCover_L21 oal trso trob trme run ruki ruta rupr runu chn chpu chco chwe v1 (mK0_lightestCover_A21) 5000 ((-1)) 109 0 0 0 tiso tiob time
abbrev rmK0_lightestCover : Room := { frames := 6, cells := 0, slots := 0, locals := 132 }
set_option maxHeartbeats 4000000 in
set_option maxRecDepth 100000 in
theorem kK0_lightestCover (l : Launch) (D : va_G) (cI cZ cB cC : ClassId) (sz : Nat) (oa : Nat) (tra : Nat) (tra1 : Nat) (tra2 : Nat) (tra3 : Nat) (tia : Nat) (tia1 : Nat) (tia2 : Nat) (tia3 : Nat) (rua : Nat) (rua1 : Nat) (rua2 : Nat) (rua3 : Nat) (rua4 : Nat) (cha : Nat) (cha1 : Nat) (cha2 : Nat) (cha3 : Nat) (foa : Nat) (foa1 : Nat) (foa2 : Nat) (sba : Nat) (ocs : Int32) (oal : Int32) (olt : Int32) (ols : Int32) (trso : Int32) (trob : Nat → Int32) (trme : Nat → Int32) (trwi : Nat → Int32) (tiso : Int32) (tiob : Nat → Int32) (time : Nat → Int32) (tiwi : Nat → Int32) (run : Int32) (ruki : Nat → Int32) (ruta : Nat → Int32) (rupr : Nat → Int32) (runu : Nat → Int32) (chn : Int32) (chpu : Nat → Int32) (chco : Nat → Int32) (chwe : Nat → Int32) (fon : Int32) (fose : Nat → Int32) (fosu : Nat → Int32) (v1 : Int32) (r0 : Int32) (olt_r : Int32) (ols_r : Int32) (tiso_r : Int32) (tiob_r : Nat → Int32) (time_r : Nat → Int32) (hm : mK0_lightestCover oal olt ols trso trob trme tiso tiob time run ruki ruta rupr runu chn chpu chco chwe v1 = some (r0, olt_r, ols_r, tiso_r, tiob_r, time_r)) : Met l yK0_lightestCover wsK0_lightestCover rmK0_lightestCover (va_Pc [.ref oa, .int v1] (Pr D (tyL cI cZ cB cC) sz (wM oa tra tra1 tra2 tra3 tia tia1 tia2 tia3 rua rua1 rua2 rua3 rua4 cha cha1 cha2 cha3 foa foa1 foa2 sba cI cZ cB cC ocs oal olt ols trso trob trme trwi tiso tiob time tiwi run ruki ruta rupr runu chn chpu chco chwe fon fose fosu))) (QI D (va_A (wM oa tra tra1 tra2 tra3 tia tia1 tia2 tia3 rua rua1 rua2 rua3 rua4 cha cha1 cha2 cha3 foa foa1 foa2 sba cI cZ cB cC ocs oal olt ols trso trob trme trwi tiso tiob time tiwi run ruki ruta rupr runu chn chpu chco chwe fon fose fosu) sz) r0 (wM oa tra tra1 tra2 tra3 tia tia1 tia2 tia3 rua rua1 rua2 rua3 rua4 cha cha1 cha2 cha3 foa foa1 foa2 sba cI cZ cB cC ocs oal olt_r ols_r trso trob trme trwi tiso_r tiob_r time_r tiwi run ruki ruta rupr runu chn chpu chco chwe fon fose fosu)) 0 0 (va_A (wM oa tra tra1 tra2 tra3 tia tia1 tia2 tia3 rua rua1 rua2 rua3 rua4 cha cha1 cha2 cha3 foa foa1 foa2 sba cI cZ cB cC ocs oal olt ols trso trob trme trwi tiso tiob time tiwi run ruki ruta rupr runu chn chpu chco chwe fon fose fosu) sz) := by
  refine Met.ofW (cc := cK0_lightestCover) (maxL := 7) (ret := (some .int)) (by decide) rfl ?_
  intro p e s m args below meth c s₁ B hml hv
  obtain ⟨rfl, hsz, hP, hK, hD0, hN⟩ := hv
  have hx := B.exec
  have hb := B.bytes
  have hr := B.returns
  have hts := htsA (atoms_spec (ws := wsK0_lightestCover) B.pre)
  have hown : s.vm.findClass RK0 = some m.cls := findClass_of_methodNamed B.named
  have hlocks := B.notSynchronized
  subst hsz
  have hD := hD0.self (sz := s.heap.size)
  generalize hAe : va_A (wM oa tra tra1 tra2 tra3 tia tia1 tia2 tia3 rua rua1 rua2 rua3 rua4 cha cha1 cha2 cha3 foa foa1 foa2 sba cI cZ cB cC ocs oal olt ols trso trob trme trwi tiso tiob time tiwi run ruki ruta rupr runu chn chpu chco chwe fon fose fosu) s.heap.size = A at hD ⊢
  have hA : ∀ q : Nat, s.heap.size ≤ q → A q := fun q h => by rw [← hAe]; exact Or.inr h
  refine kstart (A := A) hP (fun H hP hS => ?_)
  have hl := lv_entry ([.ref oa, .int v1]) (n := 7) (Nat.le_of_ble_eq_true rfl)
  rw [lg_entry_eq]
  generalize (lg_sl ([.ref oa, .int v1]) ++ List.replicate (7 - (lg_sl ([.ref oa, .int v1])).length) Slot.unset).toArray = ls at hl ⊢
  have hl : lv_has ls 7 [(0, .ref oa), (1, .int v1)] := hl
  unfold mK0_lightestCover at hm
  refine lv_aload_n hx hb dK0_lightestCover_0 rfl (lv_at hl 0 rfl) ?_
  refine lv_iconst (v := 0) hx hb dK0_lightestCover_1 (by decide) ?_
  refine va_put (D := D) (ci := 0) (v := .int 0) (ty := .int) (C := RK0) (T := TK0) (N := 10) hx hb hts inK0 tyK0 tyK0_ok nmK0 hown hK hP hD hS 0 rfl rfl 8 (by decide) (hts _ wdt1_151) (fun _ h9 => h9) rfl (by decide +kernel) rfl rfl (Nat.le_of_ble_eq_true rfl) dK0_lightestCover_2 (fun H locs hP hD hS => ?_)
  have hP : va_P D vwCl (wM oa tra tra1 tra2 tra3 tia tia1 tia2 tia3 rua rua1 rua2 rua3 rua4 cha cha1 cha2 cha3 foa foa1 foa2 sba cI cZ cB cC ocs oal 0 ols trso trob trme trwi tiso tiob time tiwi run ruki ruta rupr runu chn chpu chco chwe fon fose fosu) H := hP
  have hD : va_D A (wM oa tra tra1 tra2 tra3 tia tia1 tia2 tia3 rua rua1 rua2 rua3 rua4 cha cha1 cha2 cha3 foa foa1 foa2 sba cI cZ cB cC ocs oal 0 ols trso trob trme trwi tiso tiob time tiwi run ruki ruta rupr runu chn chpu chco chwe fon fose fosu) := hD
  refine lv_aload_n hx hb dK0_lightestCover_5 rfl (lv_at hl 0 rfl) ?_
  refine lv_iconst (v := 0) hx hb dK0_lightestCover_6 (by decide) ?_
  refine va_put (D := D) (ci := 0) (v := .int 0) (ty := .boolean) (C := RK0) (T := TK0) (N := 10) hx hb hts inK0 tyK0 tyK0_ok nmK0 hown hK hP hD hS 0 rfl rfl 9 (by decide) (hts _ wdt1_152) (fun _ h9 => h9) rfl (by decide +kernel) rfl rfl (Nat.le_of_ble_eq_true rfl) dK0_lightestCover_7 (fun H locs hP hD hS => ?_)
  have hP : va_P D vwCl (wM oa tra tra1 tra2 tra3 tia tia1 tia2 tia3 rua rua1 rua2 rua3 rua4 cha cha1 cha2 cha3 foa foa1 foa2 sba cI cZ cB cC ocs oal 0 0 trso trob trme trwi tiso tiob time tiwi run ruki ruta rupr runu chn chpu chco chwe fon fose fosu) H := hP
  have hD : va_D A (wM oa tra tra1 tra2 tra3 tia tia1 tia2 tia3 rua rua1 rua2 rua3 rua4 cha cha1 cha2 cha3 foa foa1 foa2 sba cI cZ cB cC ocs oal 0 0 trso trob trme trwi tiso tiob time tiwi run ruki ruta rupr runu chn chpu chco chwe fon fose fosu) := hD
  refine lv_iconst (v := (-1)) hx hb dK0_lightestCover_10 (by decide) ?_
  refine lv_istore_n (lv' := [(2, .int ((-1))), (0, .ref oa), (1, .int v1)]) hx hb dK0_lightestCover_11 rfl hl (by decide) rfl (fun ls hl => ?_)
  refine lv_bipush (v := 109) hx hb dK0_lightestCover_12 (by decide) ?_
  refine lv_istore_n (lv' := [(3, .int 109), (2, .int ((-1))), (0, .ref oa), (1, .int v1)]) hx hb dK0_lightestCover_14 rfl hl (by decide) rfl (fun ls hl => ?_)
  refine lv_iconst (v := 0) hx hb dK0_lightestCover_15 (by decide) ?_
  refine lv_istore (lv' := [(4, .int 0), (3, .int 109), (2, .int ((-1))), (0, .ref oa), (1, .int v1)]) hx hb dK0_lightestCover_16 hl (by decide) rfl (fun ls hl => ?_)
  refine lv_iconst (v := 0) hx hb dK0_lightestCover_18 (by decide) ?_
  refine lv_istore (lv' := [(5, .int 0), (4, .int 0), (3, .int 109), (2, .int ((-1))), (0, .ref oa), (1, .int v1)]) hx hb dK0_lightestCover_19 hl (by decide) rfl (fun ls hl => ?_)
  have lx21 : ∀ (i2x21 : Int32) (oltx21 : Int32) (tisox21 : Int32) (tiobx21 : Nat → Int32) (timex21 : Nat → Int32) (H : Heap) (locs : List Loc) (ls : Array Slot), mK0_lightestCover_A21 i2x21 oltx21 tisox21 tiobx21 timex21 = some (r0, olt_r, ols_r, tiso_r, tiob_r, time_r) → va_P D vwCl (wM oa tra tra1 tra2 tra3 tia tia1 tia2 tia3 rua rua1 rua2 rua3 rua4 cha cha1 cha2 cha3 foa foa1 foa2 sba cI cZ cB cC ocs oal oltx21 0 trso trob trme trwi tisox21 tiobx21 timex21 tiwi run ruki ruta rupr runu chn chpu chco chwe fon fose fosu) H → va_D A (wM oa tra tra1 tra2 tra3 tia tia1 tia2 tia3 rua rua1 rua2 rua3 rua4 cha cha1 cha2 cha3 foa foa1 foa2 sba cI cZ cB cC ocs oal oltx21 0 trso trob trme trwi tisox21 tiobx21 timex21 tiwi run ruki ruta rupr runu chn chpu chco chwe fon fose fosu) → va_S A s.heap H locs → lv_has ls 7 [(0, .ref oa), (2, .int i2x21)] → W p l e (headSpec wsK0_lightestCover rmK0_lightestCover).room s m ([.ref oa, .int v1] : List Value).toArray below meth c H locs 0 0 (MQ below (QI D A r0 (wM oa tra tra1 tra2 tra3 tia tia1 tia2 tia3 rua rua1 rua2 rua3 rua4 cha cha1 cha2 cha3 foa foa1 foa2 sba cI cZ cB cC ocs oal olt_r ols_r trso trob trme trwi tiso_r tiob_r time_r tiwi run ruki ruta rupr runu chn chpu chco chwe fon fose fosu)) ([.ref oa, .int v1] : List Value).toArray s 0 0 A) (F0 m 111 ls []) := by
    intro i2x21 oltx21 tisox21 tiobx21 timex21 H locs ls hm hP hD hS hl
    unfold mK0_lightestCover_A21 at hm
    refine lv_aload_n hx hb dK0_lightestCover_111 rfl (lv_at hl 0 rfl) ?_
    refine lv_iconst (v := 1) hx hb dK0_lightestCover_112 (by decide) ?_
    refine va_put (D := D) (ci := 0) (v := .int 1) (ty := .boolean) (C := RK0) (T := TK0) (N := 10) hx hb hts inK0 tyK0 tyK0_ok nmK0 hown hK hP hD hS 0 rfl rfl 9 (by decide) (hts _ wdt1_152) (fun _ h9 => h9) rfl (by decide +kernel) rfl rfl (Nat.le_of_ble_eq_true rfl) dK0_lightestCover_113 (fun H locs hP hD hS => ?_)
    have hP : va_P D vwCl (wM oa tra tra1 tra2 tra3 tia tia1 tia2 tia3 rua rua1 rua2 rua3 rua4 cha cha1 cha2 cha3 foa foa1 foa2 sba cI cZ cB cC ocs oal oltx21 1 trso trob trme trwi tisox21 tiobx21 timex21 tiwi run ruki ruta rupr runu chn chpu chco chwe fon fose fosu) H := hP
    have hD : va_D A (wM oa tra tra1 tra2 tra3 tia tia1 tia2 tia3 rua rua1 rua2 rua3 rua4 cha cha1 cha2 cha3 foa foa1 foa2 sba cI cZ cB cC ocs oal oltx21 1 trso trob trme trwi tisox21 tiobx21 timex21 tiwi run ruki ruta rupr runu chn chpu chco chwe fon fose fosu) := hD
    refine lv_iload_n hx hb dK0_lightestCover_116 rfl (lv_at hl 1 rfl) ?_
    replace hm := Option.some.inj hm
    simp only [Prod.mk.injEq] at hm
    obtain ⟨rfl, rfl, rfl, rfl, rfl, rfl⟩ := hm
    exact k_reti hx hb hr hlocks hP hD hS dK0_lightestCover_117
  have lp21 : ∀ (n21 : Nat) (i2l21 : Int32) (i3l21 : Int32) (i4l21 : Int32) (i5l21 : Int32) (oltl21 : Int32) (tisol21 : Int32) (tiobl21 : Nat → Int32) (timel21 : Nat → Int32) (H : Heap) (locs : List Loc) (ls : Array Slot), mK0_lightestCover_L21 oal trso trob trme run ruki ruta rupr runu chn chpu chco chwe v1 (mK0_lightestCover_A21) n21 i2l21 i3l21 i4l21 i5l21 oltl21 tisol21 tiobl21 timel21 = some (r0, olt_r, ols_r, tiso_r, tiob_r, time_r) → va_P D vwCl (wM oa tra tra1 tra2 tra3 tia tia1 tia2 tia3 rua rua1 rua2 rua3 rua4 cha cha1 cha2 cha3 foa foa1 foa2 sba cI cZ cB cC ocs oal oltl21 0 trso trob trme trwi tisol21 tiobl21 timel21 tiwi run ruki ruta rupr runu chn chpu chco chwe fon fose fosu) H → va_D A (wM oa tra tra1 tra2 tra3 tia tia1 tia2 tia3 rua rua1 rua2 rua3 rua4 cha cha1 cha2 cha3 foa foa1 foa2 sba cI cZ cB cC ocs oal oltl21 0 trso trob trme trwi tisol21 tiobl21 timel21 tiwi run ruki ruta rupr runu chn chpu chco chwe fon fose fosu) → va_S A s.heap H locs → lv_has ls 7 [(5, .int i5l21), (4, .int i4l21), (3, .int i3l21), (2, .int i2l21), (0, .ref oa), (1, .int v1)] → W p l e (headSpec wsK0_lightestCover rmK0_lightestCover).room s m ([.ref oa, .int v1] : List Value).toArray below meth c H locs 0 0 (MQ below (QI D A r0 (wM oa tra tra1 tra2 tra3 tia tia1 tia2 tia3 rua rua1 rua2 rua3 rua4 cha cha1 cha2 cha3 foa foa1 foa2 sba cI cZ cB cC ocs oal olt_r ols_r trso trob trme trwi tiso_r tiob_r time_r tiwi run ruki ruta rupr runu chn chpu chco chwe fon fose fosu)) ([.ref oa, .int v1] : List Value).toArray s 0 0 A) (F0 m 21 ls []) := by
    intro n21
    induction n21 with
    | zero => intro i2l21 i3l21 i4l21 i5l21 oltl21 tisol21 tiobl21 timel21 H locs ls hm; exact nomatch (show none = _ from hm)
    | succ n21 ih21 =>
      intro i2l21 i3l21 i4l21 i5l21 oltl21 tisol21 tiobl21 timel21 H locs ls hm hP hD hS hl
      replace hm : mK0_lightestCover_B21 oal trso trob trme run ruki ruta rupr runu chn chpu chco chwe v1 (mK0_lightestCover_A21) (mK0_lightestCover_L21 oal trso trob trme run ruki ruta rupr runu chn chpu chco chwe v1 (mK0_lightestCover_A21) n21) i2l21 i3l21 i4l21 i5l21 oltl21 tisol21 tiobl21 timel21 = some (r0, olt_r, ols_r, tiso_r, tiob_r, time_r) := hm
      unfold mK0_lightestCover_B21 at hm
      refine lv_iload hx hb dK0_lightestCover_21 (lv_at hl 0 rfl) ?_
      refine lv_sipush (v := 4096) hx hb dK0_lightestCover_23 (by decide) ?_
      refine lv_icmp_ge (tgt := 111) hx hb dK0_lightestCover_26 (by decide) (fun hc => ?_) (fun hc => ?_)
      · replace hm := ift hm hc
        exact lx21 i2l21 oltl21 tisol21 tiobl21 timel21 _ _ _ hm hP hD hS (lv_sub hl [4, 3] rfl)
      · replace hm := iff_ hm hc
        refine lv_iload hx hb dK0_lightestCover_29 (lv_at hl 1 rfl) ?_
        refine lv_iconst (v := (-1)) hx hb dK0_lightestCover_31 (by decide) ?_
        refine lv_icmp_eq (tgt := 111) hx hb dK0_lightestCover_32 (by decide) (fun hc => ?_) (fun hc => ?_)
        · replace hm := ift hm hc
          exact lx21 i2l21 oltl21 tisol21 tiobl21 timel21 _ _ _ hm hP hD hS (lv_sub hl [4, 3] rfl)
        · replace hm := iff_ hm hc
          refine lv_aload_n hx hb dK0_lightestCover_35 rfl (lv_at hl 4 rfl) ?_
          refine va_get (D := D) (ci := 0) (v := .int oltl21) (C := RK0) (T := TK0) (N := 10) hx hb hts inK0 hown hK hP 0 rfl rfl 8 (by decide) (hts _ wdt1_151) (fun _ h9 => h9) rfl dK0_lightestCover_36 ?_
          refine lv_aload_n hx hb dK0_lightestCover_39 rfl (lv_at hl 4 rfl) ?_
          refine va_get (D := D) (ci := 0) (v := .int oal) (C := RK0) (T := TK0) (N := 10) hx hb hts inK0 hown hK hP 0 rfl rfl 7 (by decide) (hts _ wdt1_150) (fun _ h9 => h9) rfl dK0_lightestCover_40 ?_
          refine lv_icmp_lt (tgt := 48) hx hb dK0_lightestCover_43 (by decide) (fun hc => ?_) (fun hc => ?_)
          · replace hm := ift hm hc
            refine lv_aload_n hx hb dK0_lightestCover_48 rfl (lv_at hl 4 rfl) ?_
            refine lv_dup hx hb dK0_lightestCover_49 rfl ?_
            refine va_get (D := D) (ci := 0) (v := .int oltl21) (C := RK0) (T := TK0) (N := 10) hx hb hts inK0 hown hK hP 0 rfl rfl 8 (by decide) (hts _ wdt1_151) (fun _ h9 => h9) rfl dK0_lightestCover_50 ?_
            refine lv_iconst (v := 1) hx hb dK0_lightestCover_53 (by decide) ?_
            refine lv_iadd hx hb dK0_lightestCover_54 ?_
            obtain ⟨x1, ex1, hm⟩ := bd1_s hm
            refine topi (Option.some.inj ex1) ?_
            refine va_put (D := D) (ci := 0) (v := .int x1) (ty := .int) (C := RK0) (T := TK0) (N := 10) hx hb hts inK0 tyK0 tyK0_ok nmK0 hown hK hP hD hS 0 rfl rfl 8 (by decide) (hts _ wdt1_151) (fun _ h9 => h9) rfl (by decide +kernel) rfl rfl (Nat.le_of_ble_eq_true rfl) dK0_lightestCover_55 (fun H locs hP hD hS => ?_)
            have hP : va_P D vwCl (wM oa tra tra1 tra2 tra3 tia tia1 tia2 tia3 rua rua1 rua2 rua3 rua4 cha cha1 cha2 cha3 foa foa1 foa2 sba cI cZ cB cC ocs oal x1 0 trso trob trme trwi tisol21 tiobl21 timel21 tiwi run ruki ruta rupr runu chn chpu chco chwe fon fose fosu) H := hP
            have hD : va_D A (wM oa tra tra1 tra2 tra3 tia tia1 tia2 tia3 rua rua1 rua2 rua3 rua4 cha cha1 cha2 cha3 foa foa1 foa2 sba cI cZ cB cC ocs oal x1 0 trso trob trme trwi tisol21 tiobl21 timel21 tiwi run ruki ruta rupr runu chn chpu chco chwe fon fose fosu) := hD
            refine lv_aload_n hx hb dK0_lightestCover_58 rfl (lv_at hl 4 rfl) ?_
            refine va_get (D := D) (ci := 0) (v := .ref cha) (C := RK0) (T := TK0) (N := 10) hx hb hts inK0 hown hK hP 0 rfl rfl 3 (by decide) (hts _ wdt1_146) (fun _ h9 => h9) rfl dK0_lightestCover_59 ?_
            refine lv_iload hx hb dK0_lightestCover_62 (lv_at hl 1 rfl) ?_
            obtain ⟨x2, ec3, hm⟩ := bd1_s hm
            have hPc := hP.sub (ws' := (wC cha cha1 cha2 cha3 cI cZ cB cC chn chpu chco chwe)) [14, 15, 16, 17] rfl
            have hDc := hD.sub (ws' := (wC cha cha1 cha2 cha3 cI cZ cB cC chn chpu chco chwe)) [14, 15, 16, 17] (by decide) rfl
            refine k_calli (wr := [(oa, .inr (0, [.ref tra, .ref tia, .ref rua, .ref cha, .ref foa, .ref sba, .int ocs, .int oal, .int x1, .int 0])), (tra, .inr (1, [.ref tra1, .ref tra2, .ref tra3, .int trso])), (tra1, .inl (cI, 72, .inl trob)), (tra2, .inl (cI, 12, .inl trme)), (tra3, .inl (cI, 12, .inl trwi)), (tia, .inr (1, [.ref tia1, .ref tia2, .ref tia3, .int tisol21])), (tia1, .inl (cI, 72, .inl tiobl21)), (tia2, .inl (cI, 12, .inl timel21)), (tia3, .inl (cI, 12, .inl tiwi)), (rua, .inr (2, [.ref rua1, .ref rua2, .ref rua3, .ref rua4, .int run])), (rua1, .inl (cI, 10, .inl ruki)), (rua2, .inl (cI, 10, .inl ruta)), (rua3, .inl (cI, 10, .inl rupr)), (rua4, .inl (cI, 10, .inl runu)), (foa, .inr (4, [.ref foa1, .ref foa2, .int fon])), (foa1, .inl (cI, 30, .inl fose)), (foa2, .inl (cI, 30, .inl fosu))]) (w1 := (wC cha cha1 cha2 cha3 cI cZ cB cC chn chpu chco chwe)) (ws' := (wM oa tra tra1 tra2 tra3 tia tia1 tia2 tia3 rua rua1 rua2 rua3 rua4 cha cha1 cha2 cha3 foa foa1 foa2 sba cI cZ cB cC ocs oal x1 0 trso trob trme trwi tisol21 tiobl21 timel21 tiwi run ruki ruta rupr runu chn chpu chco chwe fon fose fosu)) (va_runV (As := [.int i4l21]) (rest := []) ⟨hx, hb, hml, hown, hts⟩ (kK3_weightOf l D cI cZ cB cC H.size cha cha1 cha2 cha3 chn chpu chco chwe i4l21 x2 ec3) (cwV 1 hts (gdV wdt2_148 wdt2_149 wdt2_150 wdt1_4 gkK3_weightOf) rfl rfl rfl (by decide +kernel) ⟨Nat.le_of_ble_eq_true rfl, Nat.le_of_ble_eq_true rfl⟩) ⟨Pr_blind, va_recv hK hPc (ci := 3) (q0 := 0) rfl rfl, fun U hU hW => ⟨rfl, Pr_at hK hN hPc hDc hU hW⟩⟩ rfl rfl hl.1 rfl (lv_room (Nat.le_of_ble_eq_true rfl)) dK0_lightestCover_64 ⟨Nat.le_of_ble_eq_true rfl, Nat.le_of_ble_eq_true rfl⟩) hP hD hS hA [14, 15, 16, 17] [0, 1, 2, 3, 4, 5, 6, 7, 8, 9, 10, 11, 12, 13, 18, 19, 20] [0, 1, 2, 3, 4, 5, 6, 7, 8, 9, 10, 11, 12, 13, 17, 18, 19, 20, 14, 15, 16] rfl rfl (by decide) (by decide) (by decide) rfl (fun H locs hP hD hS => ?_)
            refine lv_istore (lv' := [(6, .int x2), (5, .int i5l21), (4, .int i4l21), (3, .int i3l21), (2, .int i2l21), (0, .ref oa), (1, .int v1)]) hx hb dK0_lightestCover_67 hl (by decide) rfl (fun ls hl => ?_)
            refine lv_iload hx hb dK0_lightestCover_69 (lv_at hl 0 rfl) ?_
            refine lv_iload_n hx hb dK0_lightestCover_71 rfl (lv_at hl 3 rfl) ?_
            refine lv_icmp_ge (tgt := 90) hx hb dK0_lightestCover_72 (by decide) (fun hc => ?_) (fun hc => ?_)
            · replace hm := ift hm hc
              refine lv_iload hx hb dK0_lightestCover_90 (lv_at hl 2 rfl) ?_
              refine lv_aload_n hx hb dK0_lightestCover_92 rfl (lv_at hl 5 rfl) ?_
              refine va_get (D := D) (ci := 0) (v := .ref cha) (C := RK0) (T := TK0) (N := 10) hx hb hts inK0 hown hK hP 0 rfl rfl 3 (by decide) (hts _ wdt1_146) (fun _ h9 => h9) rfl dK0_lightestCover_93 ?_
              refine va_getN (D := D) (ci := 3) (v := .int chn) (C := RK3) (T := TK3) (N := 4) hx hb hts inK3 hown hK hP 14 rfl rfl 3 (by decide) (nw hN 5 rfl) (fun _ h9 => h9) rfl dK0_lightestCover_96 ?_
              refine lv_iload_n hx hb dK0_lightestCover_99 rfl (lv_at hl 6 rfl) ?_
              obtain ⟨x4, ec5, hm⟩ := bd1_s hm
              have hPc : va_P D vwCl [] H := va_P0
              have hDc : va_D A [] := va_D0
              refine k_calli0 (va_runS (As := [.int i4l21, .int chn, .int v1]) (rest := []) ⟨hx, hb, hml, hown, hts⟩ (kK0_nextSet l D cI cZ cB cC H.size i4l21 chn v1 x4 ec5) (va_cwS 3 hts (gdS wdt2_121 wdt2_122 wdt1_1 gkK0_nextSet) rfl rfl rfl (by decide +kernel) ⟨Nat.le_of_ble_eq_true rfl, Nat.le_of_ble_eq_true rfl⟩) ⟨Pr_blind, fun U hU hW => ⟨rfl, Pr_at hK hN hPc hDc hU hW⟩⟩ rfl rfl hl.1 rfl (lv_room (Nat.le_of_ble_eq_true rfl)) dK0_lightestCover_100 ⟨Nat.le_of_ble_eq_true rfl, Nat.le_of_ble_eq_true rfl⟩) hP hD hS hA (fun H locs hP hD hS => ?_)
              refine lv_istore (lv' := [(4, .int x4), (6, .int x2), (5, .int i5l21), (3, .int i3l21), (2, .int i2l21), (0, .ref oa), (1, .int v1)]) hx hb dK0_lightestCover_103 hl (by decide) rfl (fun ls hl => ?_)
              obtain ⟨x6, ex6, hm⟩ := bd1_s hm
              refine lv_iinc (v := x6) (lv' := [(5, .int x6), (4, .int x4), (6, .int x2), (3, .int i3l21), (2, .int i2l21), (0, .ref oa), (1, .int v1)]) hx hb dK0_lightestCover_105 hl (k := 2) rfl (by rw [← Option.some.inj ex6]; rfl) (by decide) rfl (fun ls hl => ?_)
              refine lv_goto (tgt := 21) hx hb dK0_lightestCover_108 (by decide) ?_
              exact ih21 i2l21 i3l21 x4 x6 x1 tisol21 tiobl21 timel21 _ _ _ hm hP hD hS (lv_sub hl [0, 1, 3, 4, 5, 6] rfl)
            · replace hm := iff_ hm hc
              refine lv_aload_n hx hb dK0_lightestCover_75 rfl (lv_at hl 5 rfl) ?_
              refine lv_iload hx hb dK0_lightestCover_76 (lv_at hl 2 rfl) ?_
              obtain ⟨x7, x8, x9, x10, ec11, hm⟩ := bd4_s hm
              have hPc := hP.sub (ws' := (wM oa tra tra1 tra2 tra3 tia tia1 tia2 tia3 rua rua1 rua2 rua3 rua4 cha cha1 cha2 cha3 foa foa1 foa2 sba cI cZ cB cC ocs oal x1 0 trso trob trme trwi tisol21 tiobl21 timel21 tiwi run ruki ruta rupr runu chn chpu chco chwe fon fose fosu)) [0, 1, 2, 3, 4, 5, 6, 7, 8, 9, 10, 11, 12, 13, 14, 15, 16, 17, 18, 19, 20] rfl
              have hDc := hD.sub (ws' := (wM oa tra tra1 tra2 tra3 tia tia1 tia2 tia3 rua rua1 rua2 rua3 rua4 cha cha1 cha2 cha3 foa foa1 foa2 sba cI cZ cB cC ocs oal x1 0 trso trob trme trwi tisol21 tiobl21 timel21 tiwi run ruki ruta rupr runu chn chpu chco chwe fon fose fosu)) [0, 1, 2, 3, 4, 5, 6, 7, 8, 9, 10, 11, 12, 13, 14, 15, 16, 17, 18, 19, 20] (by decide) rfl
              refine k_calli (wr := []) (w1 := (wM oa tra tra1 tra2 tra3 tia tia1 tia2 tia3 rua rua1 rua2 rua3 rua4 cha cha1 cha2 cha3 foa foa1 foa2 sba cI cZ cB cC ocs oal x1 0 trso trob trme trwi x8 x9 x10 tiwi run ruki ruta rupr runu chn chpu chco chwe fon fose fosu)) (ws' := (wM oa tra tra1 tra2 tra3 tia tia1 tia2 tia3 rua rua1 rua2 rua3 rua4 cha cha1 cha2 cha3 foa foa1 foa2 sba cI cZ cB cC ocs oal x1 0 trso trob trme trwi x8 x9 x10 tiwi run ruki ruta rupr runu chn chpu chco chwe fon fose fosu)) (va_runV (As := [.int i4l21]) (rest := []) ⟨hx, hb, hml, hown, hts⟩ (kK0_putsAllRight l D cI cZ cB cC H.size oa tra tra1 tra2 tra3 tia tia1 tia2 tia3 rua rua1 rua2 rua3 rua4 cha cha1 cha2 cha3 foa foa1 foa2 sba ocs oal x1 0 trso trob trme trwi tisol21 tiobl21 timel21 tiwi run ruki ruta rupr runu chn chpu chco chwe fon fose fosu i4l21 x7 x8 x9 x10 ec11) (cwV 1 hts (gdV wdt2_193 wdt2_195 wds1_11 wdt1_1 gkK0_putsAllRight) rfl rfl rfl (by decide +kernel) ⟨Nat.le_of_ble_eq_true rfl, Nat.le_of_ble_eq_true rfl⟩) ⟨Pr_blind, va_recv hK hPc (ci := 0) (q0 := 0) rfl rfl, fun U hU hW => ⟨rfl, Pr_at hK hN hPc hDc hU hW⟩⟩ rfl rfl hl.1 rfl (lv_room (Nat.le_of_ble_eq_true rfl)) dK0_lightestCover_78 ⟨Nat.le_of_ble_eq_true rfl, Nat.le_of_ble_eq_true rfl⟩) hP hD hS hA [0, 1, 2, 3, 4, 5, 6, 7, 8, 9, 10, 11, 12, 13, 14, 15, 16, 17, 18, 19, 20] [] [0, 1, 2, 3, 4, 5, 6, 7, 8, 9, 10, 11, 12, 13, 14, 15, 16, 17, 18, 19, 20] rfl rfl (by decide) (by decide) (by decide) rfl (fun H locs hP hD hS => ?_)
              refine lv_if_eq (tgt := 90) hx hb dK0_lightestCover_81 (by decide) (fun hc => ?_) (fun hc => ?_)
              · replace hm := ift hm hc
                refine lv_iload hx hb dK0_lightestCover_90 (lv_at hl 2 rfl) ?_
                refine lv_aload_n hx hb dK0_lightestCover_92 rfl (lv_at hl 5 rfl) ?_
                refine va_get (D := D) (ci := 0) (v := .ref cha) (C := RK0) (T := TK0) (N := 10) hx hb hts inK0 hown hK hP 0 rfl rfl 3 (by decide) (hts _ wdt1_146) (fun _ h9 => h9) rfl dK0_lightestCover_93 ?_
                refine va_getN (D := D) (ci := 3) (v := .int chn) (C := RK3) (T := TK3) (N := 4) hx hb hts inK3 hown hK hP 14 rfl rfl 3 (by decide) (nw hN 5 rfl) (fun _ h9 => h9) rfl dK0_lightestCover_96 ?_
                refine lv_iload_n hx hb dK0_lightestCover_99 rfl (lv_at hl 6 rfl) ?_
                obtain ⟨x12, ec13, hm⟩ := bd1_s hm
                have hPc : va_P D vwCl [] H := va_P0
                have hDc : va_D A [] := va_D0
                refine k_calli0 (va_runS (As := [.int i4l21, .int chn, .int v1]) (rest := []) ⟨hx, hb, hml, hown, hts⟩ (kK0_nextSet l D cI cZ cB cC H.size i4l21 chn v1 x12 ec13) (va_cwS 3 hts (gdS wdt2_121 wdt2_122 wdt1_1 gkK0_nextSet) rfl rfl rfl (by decide +kernel) ⟨Nat.le_of_ble_eq_true rfl, Nat.le_of_ble_eq_true rfl⟩) ⟨Pr_blind, fun U hU hW => ⟨rfl, Pr_at hK hN hPc hDc hU hW⟩⟩ rfl rfl hl.1 rfl (lv_room (Nat.le_of_ble_eq_true rfl)) dK0_lightestCover_100 ⟨Nat.le_of_ble_eq_true rfl, Nat.le_of_ble_eq_true rfl⟩) hP hD hS hA (fun H locs hP hD hS => ?_)
                refine lv_istore (lv' := [(4, .int x12), (6, .int x2), (5, .int i5l21), (3, .int i3l21), (2, .int i2l21), (0, .ref oa), (1, .int v1)]) hx hb dK0_lightestCover_103 hl (by decide) rfl (fun ls hl => ?_)
                obtain ⟨x14, ex14, hm⟩ := bd1_s hm
                refine lv_iinc (v := x14) (lv' := [(5, .int x14), (4, .int x12), (6, .int x2), (3, .int i3l21), (2, .int i2l21), (0, .ref oa), (1, .int v1)]) hx hb dK0_lightestCover_105 hl (k := 2) rfl (by rw [← Option.some.inj ex14]; rfl) (by decide) rfl (fun ls hl => ?_)
                refine lv_goto (tgt := 21) hx hb dK0_lightestCover_108 (by decide) ?_
                exact ih21 i2l21 i3l21 x12 x14 x1 x8 x9 x10 _ _ _ hm hP hD hS (lv_sub hl [0, 1, 3, 4, 5, 6] rfl)
              · replace hm := iff_ hm hc
                refine lv_iload hx hb dK0_lightestCover_84 (lv_at hl 2 rfl) ?_
                refine lv_istore_n (lv' := [(2, .int i4l21), (6, .int x2), (5, .int i5l21), (4, .int i4l21), (3, .int i3l21), (0, .ref oa), (1, .int v1)]) hx hb dK0_lightestCover_86 rfl hl (by decide) rfl (fun ls hl => ?_)
                refine lv_iload hx hb dK0_lightestCover_87 (lv_at hl 1 rfl) ?_
                refine lv_istore_n (lv' := [(3, .int x2), (2, .int i4l21), (6, .int x2), (5, .int i5l21), (4, .int i4l21), (0, .ref oa), (1, .int v1)]) hx hb dK0_lightestCover_89 rfl hl (by decide) rfl (fun ls hl => ?_)
                refine lv_iload hx hb dK0_lightestCover_90 (lv_at hl 4 rfl) ?_
                refine lv_aload_n hx hb dK0_lightestCover_92 rfl (lv_at hl 5 rfl) ?_
                refine va_get (D := D) (ci := 0) (v := .ref cha) (C := RK0) (T := TK0) (N := 10) hx hb hts inK0 hown hK hP 0 rfl rfl 3 (by decide) (hts _ wdt1_146) (fun _ h9 => h9) rfl dK0_lightestCover_93 ?_
                refine va_getN (D := D) (ci := 3) (v := .int chn) (C := RK3) (T := TK3) (N := 4) hx hb hts inK3 hown hK hP 14 rfl rfl 3 (by decide) (nw hN 5 rfl) (fun _ h9 => h9) rfl dK0_lightestCover_96 ?_
                refine lv_iload_n hx hb dK0_lightestCover_99 rfl (lv_at hl 6 rfl) ?_
                obtain ⟨x15, ec16, hm⟩ := bd1_s hm
                have hPc : va_P D vwCl [] H := va_P0
                have hDc : va_D A [] := va_D0
                refine k_calli0 (va_runS (As := [.int i4l21, .int chn, .int v1]) (rest := []) ⟨hx, hb, hml, hown, hts⟩ (kK0_nextSet l D cI cZ cB cC H.size i4l21 chn v1 x15 ec16) (va_cwS 3 hts (gdS wdt2_121 wdt2_122 wdt1_1 gkK0_nextSet) rfl rfl rfl (by decide +kernel) ⟨Nat.le_of_ble_eq_true rfl, Nat.le_of_ble_eq_true rfl⟩) ⟨Pr_blind, fun U hU hW => ⟨rfl, Pr_at hK hN hPc hDc hU hW⟩⟩ rfl rfl hl.1 rfl (lv_room (Nat.le_of_ble_eq_true rfl)) dK0_lightestCover_100 ⟨Nat.le_of_ble_eq_true rfl, Nat.le_of_ble_eq_true rfl⟩) hP hD hS hA (fun H locs hP hD hS => ?_)
                refine lv_istore (lv' := [(4, .int x15), (3, .int x2), (2, .int i4l21), (6, .int x2), (5, .int i5l21), (0, .ref oa), (1, .int v1)]) hx hb dK0_lightestCover_103 hl (by decide) rfl (fun ls hl => ?_)
                obtain ⟨x17, ex17, hm⟩ := bd1_s hm
                refine lv_iinc (v := x17) (lv' := [(5, .int x17), (4, .int x15), (3, .int x2), (2, .int i4l21), (6, .int x2), (0, .ref oa), (1, .int v1)]) hx hb dK0_lightestCover_105 hl (k := 4) rfl (by rw [← Option.some.inj ex17]; rfl) (by decide) rfl (fun ls hl => ?_)
                refine lv_goto (tgt := 21) hx hb dK0_lightestCover_108 (by decide) ?_
                exact ih21 i4l21 x2 x15 x17 x1 x8 x9 x10 _ _ _ hm hP hD hS (lv_sub hl [0, 1, 2, 3, 5, 6] rfl)
          · replace hm := iff_ hm hc
            refine lv_iload_n hx hb dK0_lightestCover_46 rfl (lv_at hl 3 rfl) ?_
            replace hm := Option.some.inj hm
            simp only [Prod.mk.injEq] at hm
            obtain ⟨rfl, rfl, rfl, rfl, rfl, rfl⟩ := hm
            exact k_reti hx hb hr hlocks hP hD hS dK0_lightestCover_47
  exact lp21 5000 ((-1)) 109 0 0 0 tiso tiob time _ _ _ hm hP hD hS (lv_sub hl [0, 1, 2, 3, 4, 5] rfl)
def mK0_cover (ocs : Int32) (oal : Int32) (olt : Int32) (ols : Int32) (trso : Int32) (trob : Nat → Int32) (trme : Nat → Int32) (tiso : Int32) (tiob : Nat → Int32) (time : Nat → Int32) (run : Int32) (ruki : Nat → Int32) (ruta : Nat → Int32) (rupr : Nat → Int32) (runu : Nat → Int32) (chn : Int32) (chpu : Nat → Int32) (chco : Nat → Int32) (chwe : Nat → Int32) (v1 : Int32) : Option (Int32 × Int32 × Int32 × Int32 × Int32 × (Nat → Int32) × (Nat → Int32)) :=
  if v1 < 0 then
  (some ((-1), ocs, olt, ols, tiso, tiob, time))
  else
  (if v1 ≤ 12 then
    (bd6 (mK0_lightestCover oal olt ols trso trob trme tiso tiob time run ruki ruta rupr runu chn chpu chco chwe (imin v1 chn)) fun x1 x2 x3 x4 x5 x6 => if x1 = ((-1)) then
      (some ((-2), 0, x2, x3, x4, x5, x6))
      else
      (bd1 (mK3_weightOf chn chwe x1) fun x8 => some (x8, x1, x2, x3, x4, x5, x6)))
    else
    (some ((-1), ocs, olt, ols, tiso, tiob, time)))
abbrev rmK0_cover : Room := { frames := 7, cells := 0, slots := 0, locals := 158 }
set_option maxHeartbeats 4000000 in
set_option maxRecDepth 100000 in
theorem kK0_cover (l : Launch) (D : va_G) (cI cZ cB cC : ClassId) (sz : Nat) (oa : Nat) (tra : Nat) (tra1 : Nat) (tra2 : Nat) (tra3 : Nat) (tia : Nat) (tia1 : Nat) (tia2 : Nat) (tia3 : Nat) (rua : Nat) (rua1 : Nat) (rua2 : Nat) (rua3 : Nat) (rua4 : Nat) (cha : Nat) (cha1 : Nat) (cha2 : Nat) (cha3 : Nat) (foa : Nat) (foa1 : Nat) (foa2 : Nat) (sba : Nat) (ocs : Int32) (oal : Int32) (olt : Int32) (ols : Int32) (trso : Int32) (trob : Nat → Int32) (trme : Nat → Int32) (trwi : Nat → Int32) (tiso : Int32) (tiob : Nat → Int32) (time : Nat → Int32) (tiwi : Nat → Int32) (run : Int32) (ruki : Nat → Int32) (ruta : Nat → Int32) (rupr : Nat → Int32) (runu : Nat → Int32) (chn : Int32) (chpu : Nat → Int32) (chco : Nat → Int32) (chwe : Nat → Int32) (fon : Int32) (fose : Nat → Int32) (fosu : Nat → Int32) (v1 : Int32) (r0 : Int32) (ocs_r : Int32) (olt_r : Int32) (ols_r : Int32) (tiso_r : Int32) (tiob_r : Nat → Int32) (time_r : Nat → Int32) (hm : mK0_cover ocs oal olt ols trso trob trme tiso tiob time run ruki ruta rupr runu chn chpu chco chwe v1 = some (r0, ocs_r, olt_r, ols_r, tiso_r, tiob_r, time_r)) : Met l yK0_cover wsK0_cover rmK0_cover (va_Pc [.ref oa, .int v1] (Pr D (tyL cI cZ cB cC) sz (wM oa tra tra1 tra2 tra3 tia tia1 tia2 tia3 rua rua1 rua2 rua3 rua4 cha cha1 cha2 cha3 foa foa1 foa2 sba cI cZ cB cC ocs oal olt ols trso trob trme trwi tiso tiob time tiwi run ruki ruta rupr runu chn chpu chco chwe fon fose fosu))) (QI D (va_A (wM oa tra tra1 tra2 tra3 tia tia1 tia2 tia3 rua rua1 rua2 rua3 rua4 cha cha1 cha2 cha3 foa foa1 foa2 sba cI cZ cB cC ocs oal olt ols trso trob trme trwi tiso tiob time tiwi run ruki ruta rupr runu chn chpu chco chwe fon fose fosu) sz) r0 (wM oa tra tra1 tra2 tra3 tia tia1 tia2 tia3 rua rua1 rua2 rua3 rua4 cha cha1 cha2 cha3 foa foa1 foa2 sba cI cZ cB cC ocs_r oal olt_r ols_r trso trob trme trwi tiso_r tiob_r time_r tiwi run ruki ruta rupr runu chn chpu chco chwe fon fose fosu)) 0 0 (va_A (wM oa tra tra1 tra2 tra3 tia tia1 tia2 tia3 rua rua1 rua2 rua3 rua4 cha cha1 cha2 cha3 foa foa1 foa2 sba cI cZ cB cC ocs oal olt ols trso trob trme trwi tiso tiob time tiwi run ruki ruta rupr runu chn chpu chco chwe fon fose fosu) sz) := by
  refine Met.ofW (cc := cK0_cover) (maxL := 3) (ret := (some .int)) (by decide) rfl ?_
  intro p e s m args below meth c s₁ B hml hv
  obtain ⟨rfl, hsz, hP, hK, hD0, hN⟩ := hv
  have hx := B.exec
  have hb := B.bytes
  have hr := B.returns
  have hts := htsA (atoms_spec (ws := wsK0_cover) B.pre)
  have hown : s.vm.findClass RK0 = some m.cls := findClass_of_methodNamed B.named
  have hlocks := B.notSynchronized
  subst hsz
  have hD := hD0.self (sz := s.heap.size)
  generalize hAe : va_A (wM oa tra tra1 tra2 tra3 tia tia1 tia2 tia3 rua rua1 rua2 rua3 rua4 cha cha1 cha2 cha3 foa foa1 foa2 sba cI cZ cB cC ocs oal olt ols trso trob trme trwi tiso tiob time tiwi run ruki ruta rupr runu chn chpu chco chwe fon fose fosu) s.heap.size = A at hD ⊢
  have hA : ∀ q : Nat, s.heap.size ≤ q → A q := fun q h => by rw [← hAe]; exact Or.inr h
  refine kstart (A := A) hP (fun H hP hS => ?_)
  have hl := lv_entry ([.ref oa, .int v1]) (n := 3) (Nat.le_of_ble_eq_true rfl)
  rw [lg_entry_eq]
  generalize (lg_sl ([.ref oa, .int v1]) ++ List.replicate (3 - (lg_sl ([.ref oa, .int v1])).length) Slot.unset).toArray = ls at hl ⊢
  have hl : lv_has ls 3 [(0, .ref oa), (1, .int v1)] := hl
  unfold mK0_cover at hm
  refine lv_iload_n hx hb dK0_cover_0 rfl (lv_at hl 1 rfl) ?_
  refine lv_if_lt (tgt := 10) hx hb dK0_cover_1 (by decide) (fun hc => ?_) (fun hc => ?_)
  · replace hm := ift hm hc
    refine lv_iconst (v := (-1)) hx hb dK0_cover_10 (by decide) ?_
    replace hm := Option.some.inj hm
    simp only [Prod.mk.injEq] at hm
    obtain ⟨rfl, rfl, rfl, rfl, rfl, rfl, rfl⟩ := hm
    exact k_reti hx hb hr hlocks hP hD hS dK0_cover_11
  · replace hm := iff_ hm hc
    refine lv_iload_n hx hb dK0_cover_4 rfl (lv_at hl 1 rfl) ?_
    refine lv_bipush (v := 12) hx hb dK0_cover_5 (by decide) ?_
    refine lv_icmp_le (tgt := 12) hx hb dK0_cover_7 (by decide) (fun hc => ?_) (fun hc => ?_)
    · replace hm := ift hm hc
      refine lv_aload_n hx hb dK0_cover_12 rfl (lv_at hl 0 rfl) ?_
      refine lv_iload_n hx hb dK0_cover_13 rfl (lv_at hl 1 rfl) ?_
      refine lv_aload_n hx hb dK0_cover_14 rfl (lv_at hl 0 rfl) ?_
      refine va_get (D := D) (ci := 0) (v := .ref cha) (C := RK0) (T := TK0) (N := 10) hx hb hts inK0 hown hK hP 0 rfl rfl 3 (by decide) (hts _ wdt1_146) (fun _ h9 => h9) rfl dK0_cover_15 ?_
      refine va_getN (D := D) (ci := 3) (v := .int chn) (C := RK3) (T := TK3) (N := 4) hx hb hts inK3 hown hK hP 14 rfl rfl 3 (by decide) (nw hN 5 rfl) (fun _ h9 => h9) rfl dK0_cover_18 ?_
      refine va_mmin hx hb (by rw [hml]; exact hl.1.symm) hown (hts _ wdt2_116) (hts _ wdt1_228) (hts _ wdt1_13) (hts _ wdt1_229) (Nat.le_of_ble_eq_true rfl) (Nat.le_of_ble_eq_true rfl) (Nat.le_of_ble_eq_true rfl) (Nat.le_of_ble_eq_true rfl) dK0_cover_21 ?_
      refine topi (y := imin v1 chn) rfl ?_
      obtain ⟨x1, x2, x3, x4, x5, x6, ec7, hm⟩ := bd6_s hm
      have hPc := hP.sub (ws' := (wM oa tra tra1 tra2 tra3 tia tia1 tia2 tia3 rua rua1 rua2 rua3 rua4 cha cha1 cha2 cha3 foa foa1 foa2 sba cI cZ cB cC ocs oal olt ols trso trob trme trwi tiso tiob time tiwi run ruki ruta rupr runu chn chpu chco chwe fon fose fosu)) [0, 1, 2, 3, 4, 5, 6, 7, 8, 9, 10, 11, 12, 13, 14, 15, 16, 17, 18, 19, 20] rfl
      have hDc := hD.sub (ws' := (wM oa tra tra1 tra2 tra3 tia tia1 tia2 tia3 rua rua1 rua2 rua3 rua4 cha cha1 cha2 cha3 foa foa1 foa2 sba cI cZ cB cC ocs oal olt ols trso trob trme trwi tiso tiob time tiwi run ruki ruta rupr runu chn chpu chco chwe fon fose fosu)) [0, 1, 2, 3, 4, 5, 6, 7, 8, 9, 10, 11, 12, 13, 14, 15, 16, 17, 18, 19, 20] (by decide) rfl
      refine k_calli (wr := []) (w1 := (wM oa tra tra1 tra2 tra3 tia tia1 tia2 tia3 rua rua1 rua2 rua3 rua4 cha cha1 cha2 cha3 foa foa1 foa2 sba cI cZ cB cC ocs oal x2 x3 trso trob trme trwi x4 x5 x6 tiwi run ruki ruta rupr runu chn chpu chco chwe fon fose fosu)) (ws' := (wM oa tra tra1 tra2 tra3 tia tia1 tia2 tia3 rua rua1 rua2 rua3 rua4 cha cha1 cha2 cha3 foa foa1 foa2 sba cI cZ cB cC ocs oal x2 x3 trso trob trme trwi x4 x5 x6 tiwi run ruki ruta rupr runu chn chpu chco chwe fon fose fosu)) (va_runV (As := [.int (imin v1 chn)]) (rest := []) ⟨hx, hb, hml, hown, hts⟩ (kK0_lightestCover l D cI cZ cB cC H.size oa tra tra1 tra2 tra3 tia tia1 tia2 tia3 rua rua1 rua2 rua3 rua4 cha cha1 cha2 cha3 foa foa1 foa2 sba ocs oal olt ols trso trob trme trwi tiso tiob time tiwi run ruki ruta rupr runu chn chpu chco chwe fon fose fosu (imin v1 chn) x1 x2 x3 x4 x5 x6 ec7) (cwV 1 hts (gdV wdt2_189 wdt2_191 wds1_10 wdt1_1 gkK0_lightestCover) rfl rfl rfl (by decide +kernel) ⟨Nat.le_of_ble_eq_true rfl, Nat.le_of_ble_eq_true rfl⟩) ⟨Pr_blind, va_recv hK hPc (ci := 0) (q0 := 0) rfl rfl, fun U hU hW => ⟨rfl, Pr_at hK hN hPc hDc hU hW⟩⟩ rfl rfl hl.1 rfl (lv_room (Nat.le_of_ble_eq_true rfl)) dK0_cover_24 ⟨Nat.le_of_ble_eq_true rfl, Nat.le_of_ble_eq_true rfl⟩) hP hD hS hA [0, 1, 2, 3, 4, 5, 6, 7, 8, 9, 10, 11, 12, 13, 14, 15, 16, 17, 18, 19, 20] [] [0, 1, 2, 3, 4, 5, 6, 7, 8, 9, 10, 11, 12, 13, 14, 15, 16, 17, 18, 19, 20] rfl rfl (by decide) (by decide) (by decide) rfl (fun H locs hP hD hS => ?_)
      refine lv_istore_n (lv' := [(2, .int x1), (0, .ref oa), (1, .int v1)]) hx hb dK0_cover_27 rfl hl (by decide) rfl (fun ls hl => ?_)
      refine lv_iload_n hx hb dK0_cover_28 rfl (lv_at hl 0 rfl) ?_
      refine lv_iconst (v := (-1)) hx hb dK0_cover_29 (by decide) ?_
      refine lv_icmp_ne (tgt := 41) hx hb dK0_cover_30 (by decide) (fun hc => ?_) (fun hc => ?_)
      · replace hm := iff_ hm hc
        refine lv_aload_n hx hb dK0_cover_41 rfl (lv_at hl 1 rfl) ?_
        refine lv_iload_n hx hb dK0_cover_42 rfl (lv_at hl 0 rfl) ?_
        refine va_put (D := D) (ci := 0) (v := .int x1) (ty := .int) (C := RK0) (T := TK0) (N := 10) hx hb hts inK0 tyK0 tyK0_ok nmK0 hown hK hP hD hS 0 rfl rfl 6 (by decide) (hts _ wdt1_149) (fun _ h9 => h9) rfl (by decide +kernel) rfl rfl (Nat.le_of_ble_eq_true rfl) dK0_cover_43 (fun H locs hP hD hS => ?_)
        have hP : va_P D vwCl (wM oa tra tra1 tra2 tra3 tia tia1 tia2 tia3 rua rua1 rua2 rua3 rua4 cha cha1 cha2 cha3 foa foa1 foa2 sba cI cZ cB cC x1 oal x2 x3 trso trob trme trwi x4 x5 x6 tiwi run ruki ruta rupr runu chn chpu chco chwe fon fose fosu) H := hP
        have hD : va_D A (wM oa tra tra1 tra2 tra3 tia tia1 tia2 tia3 rua rua1 rua2 rua3 rua4 cha cha1 cha2 cha3 foa foa1 foa2 sba cI cZ cB cC x1 oal x2 x3 trso trob trme trwi x4 x5 x6 tiwi run ruki ruta rupr runu chn chpu chco chwe fon fose fosu) := hD
        refine lv_aload_n hx hb dK0_cover_46 rfl (lv_at hl 1 rfl) ?_
        refine va_get (D := D) (ci := 0) (v := .ref cha) (C := RK0) (T := TK0) (N := 10) hx hb hts inK0 hown hK hP 0 rfl rfl 3 (by decide) (hts _ wdt1_146) (fun _ h9 => h9) rfl dK0_cover_47 ?_
        refine lv_iload_n hx hb dK0_cover_50 rfl (lv_at hl 0 rfl) ?_
        obtain ⟨x8, ec9, hm⟩ := bd1_s hm
        have hPc := hP.sub (ws' := (wC cha cha1 cha2 cha3 cI cZ cB cC chn chpu chco chwe)) [14, 15, 16, 17] rfl
        have hDc := hD.sub (ws' := (wC cha cha1 cha2 cha3 cI cZ cB cC chn chpu chco chwe)) [14, 15, 16, 17] (by decide) rfl
        refine k_calli (wr := [(oa, .inr (0, [.ref tra, .ref tia, .ref rua, .ref cha, .ref foa, .ref sba, .int x1, .int oal, .int x2, .int x3])), (tra, .inr (1, [.ref tra1, .ref tra2, .ref tra3, .int trso])), (tra1, .inl (cI, 72, .inl trob)), (tra2, .inl (cI, 12, .inl trme)), (tra3, .inl (cI, 12, .inl trwi)), (tia, .inr (1, [.ref tia1, .ref tia2, .ref tia3, .int x4])), (tia1, .inl (cI, 72, .inl x5)), (tia2, .inl (cI, 12, .inl x6)), (tia3, .inl (cI, 12, .inl tiwi)), (rua, .inr (2, [.ref rua1, .ref rua2, .ref rua3, .ref rua4, .int run])), (rua1, .inl (cI, 10, .inl ruki)), (rua2, .inl (cI, 10, .inl ruta)), (rua3, .inl (cI, 10, .inl rupr)), (rua4, .inl (cI, 10, .inl runu)), (foa, .inr (4, [.ref foa1, .ref foa2, .int fon])), (foa1, .inl (cI, 30, .inl fose)), (foa2, .inl (cI, 30, .inl fosu))]) (w1 := (wC cha cha1 cha2 cha3 cI cZ cB cC chn chpu chco chwe)) (ws' := (wM oa tra tra1 tra2 tra3 tia tia1 tia2 tia3 rua rua1 rua2 rua3 rua4 cha cha1 cha2 cha3 foa foa1 foa2 sba cI cZ cB cC x1 oal x2 x3 trso trob trme trwi x4 x5 x6 tiwi run ruki ruta rupr runu chn chpu chco chwe fon fose fosu)) (va_runV (As := [.int x1]) (rest := []) ⟨hx, hb, hml, hown, hts⟩ (kK3_weightOf l D cI cZ cB cC H.size cha cha1 cha2 cha3 chn chpu chco chwe x1 x8 ec9) (cwV 1 hts (gdV wdt2_148 wdt2_149 wdt2_150 wdt1_4 gkK3_weightOf) rfl rfl rfl (by decide +kernel) ⟨Nat.le_of_ble_eq_true rfl, Nat.le_of_ble_eq_true rfl⟩) ⟨Pr_blind, va_recv hK hPc (ci := 3) (q0 := 0) rfl rfl, fun U hU hW => ⟨rfl, Pr_at hK hN hPc hDc hU hW⟩⟩ rfl rfl hl.1 rfl (lv_room (Nat.le_of_ble_eq_true rfl)) dK0_cover_51 ⟨Nat.le_of_ble_eq_true rfl, Nat.le_of_ble_eq_true rfl⟩) hP hD hS hA [14, 15, 16, 17] [0, 1, 2, 3, 4, 5, 6, 7, 8, 9, 10, 11, 12, 13, 18, 19, 20] [0, 1, 2, 3, 4, 5, 6, 7, 8, 9, 10, 11, 12, 13, 17, 18, 19, 20, 14, 15, 16] rfl rfl (by decide) (by decide) (by decide) rfl (fun H locs hP hD hS => ?_)
        replace hm := Option.some.inj hm
        simp only [Prod.mk.injEq] at hm
        obtain ⟨rfl, rfl, rfl, rfl, rfl, rfl, rfl⟩ := hm
        exact k_reti hx hb hr hlocks hP hD hS dK0_cover_54
      · replace hm := ift hm hc
        refine lv_aload_n hx hb dK0_cover_33 rfl (lv_at hl 1 rfl) ?_
        refine lv_iconst (v := 0) hx hb dK0_cover_34 (by decide) ?_
        refine va_put (D := D) (ci := 0) (v := .int 0) (ty := .int) (C := RK0) (T := TK0) (N := 10) hx hb hts inK0 tyK0 tyK0_ok nmK0 hown hK hP hD hS 0 rfl rfl 6 (by decide) (hts _ wdt1_149) (fun _ h9 => h9) rfl (by decide +kernel) rfl rfl (Nat.le_of_ble_eq_true rfl) dK0_cover_35 (fun H locs hP hD hS => ?_)
        have hP : va_P D vwCl (wM oa tra tra1 tra2 tra3 tia tia1 tia2 tia3 rua rua1 rua2 rua3 rua4 cha cha1 cha2 cha3 foa foa1 foa2 sba cI cZ cB cC 0 oal x2 x3 trso trob trme trwi x4 x5 x6 tiwi run ruki ruta rupr runu chn chpu chco chwe fon fose fosu) H := hP
        have hD : va_D A (wM oa tra tra1 tra2 tra3 tia tia1 tia2 tia3 rua rua1 rua2 rua3 rua4 cha cha1 cha2 cha3 foa foa1 foa2 sba cI cZ cB cC 0 oal x2 x3 trso trob trme trwi x4 x5 x6 tiwi run ruki ruta rupr runu chn chpu chco chwe fon fose fosu) := hD
        refine lv_bipush (v := (-2)) hx hb dK0_cover_38 (by decide) ?_
        replace hm := Option.some.inj hm
        simp only [Prod.mk.injEq] at hm
        obtain ⟨rfl, rfl, rfl, rfl, rfl, rfl, rfl⟩ := hm
        exact k_reti hx hb hr hlocks hP hD hS dK0_cover_40
    · replace hm := iff_ hm hc
      refine lv_iconst (v := (-1)) hx hb dK0_cover_10 (by decide) ?_
      replace hm := Option.some.inj hm
      simp only [Prod.mk.injEq] at hm
      obtain ⟨rfl, rfl, rfl, rfl, rfl, rfl, rfl⟩ := hm
      exact k_reti hx hb hr hlocks hP hD hS dK0_cover_11
def mK0_covered (ocs : Int32) (v1 : Int32) : Option (Int32) :=
  bd1 (mK0_nthMember ocs v1) fun x1 => some x1
abbrev rmK0_covered : Room := { frames := 2, cells := 0, slots := 0, locals := 44 }
set_option maxHeartbeats 4000000 in
set_option maxRecDepth 100000 in
theorem kK0_covered (l : Launch) (D : va_G) (cI cZ cB cC : ClassId) (sz : Nat) (oa : Nat) (tra : Nat) (tra1 : Nat) (tra2 : Nat) (tra3 : Nat) (tia : Nat) (tia1 : Nat) (tia2 : Nat) (tia3 : Nat) (rua : Nat) (rua1 : Nat) (rua2 : Nat) (rua3 : Nat) (rua4 : Nat) (cha : Nat) (cha1 : Nat) (cha2 : Nat) (cha3 : Nat) (foa : Nat) (foa1 : Nat) (foa2 : Nat) (sba : Nat) (ocs : Int32) (oal : Int32) (olt : Int32) (ols : Int32) (trso : Int32) (trob : Nat → Int32) (trme : Nat → Int32) (trwi : Nat → Int32) (tiso : Int32) (tiob : Nat → Int32) (time : Nat → Int32) (tiwi : Nat → Int32) (run : Int32) (ruki : Nat → Int32) (ruta : Nat → Int32) (rupr : Nat → Int32) (runu : Nat → Int32) (chn : Int32) (chpu : Nat → Int32) (chco : Nat → Int32) (chwe : Nat → Int32) (fon : Int32) (fose : Nat → Int32) (fosu : Nat → Int32) (v1 : Int32) (r0 : Int32) (hm : mK0_covered ocs v1 = some r0) : Met l yK0_covered wsK0_covered rmK0_covered (va_Pc [.ref oa, .int v1] (Pr D (tyL cI cZ cB cC) sz (wM oa tra tra1 tra2 tra3 tia tia1 tia2 tia3 rua rua1 rua2 rua3 rua4 cha cha1 cha2 cha3 foa foa1 foa2 sba cI cZ cB cC ocs oal olt ols trso trob trme trwi tiso tiob time tiwi run ruki ruta rupr runu chn chpu chco chwe fon fose fosu))) (QI D (va_A (wM oa tra tra1 tra2 tra3 tia tia1 tia2 tia3 rua rua1 rua2 rua3 rua4 cha cha1 cha2 cha3 foa foa1 foa2 sba cI cZ cB cC ocs oal olt ols trso trob trme trwi tiso tiob time tiwi run ruki ruta rupr runu chn chpu chco chwe fon fose fosu) sz) r0 (wM oa tra tra1 tra2 tra3 tia tia1 tia2 tia3 rua rua1 rua2 rua3 rua4 cha cha1 cha2 cha3 foa foa1 foa2 sba cI cZ cB cC ocs oal olt ols trso trob trme trwi tiso tiob time tiwi run ruki ruta rupr runu chn chpu chco chwe fon fose fosu)) 0 0 (va_A (wM oa tra tra1 tra2 tra3 tia tia1 tia2 tia3 rua rua1 rua2 rua3 rua4 cha cha1 cha2 cha3 foa foa1 foa2 sba cI cZ cB cC ocs oal olt ols trso trob trme trwi tiso tiob time tiwi run ruki ruta rupr runu chn chpu chco chwe fon fose fosu) sz) := by
  refine Met.ofW (cc := cK0_covered) (maxL := 2) (ret := (some .int)) (by decide) rfl ?_
  intro p e s m args below meth c s₁ B hml hv
  obtain ⟨rfl, hsz, hP, hK, hD0, hN⟩ := hv
  have hx := B.exec
  have hb := B.bytes
  have hr := B.returns
  have hts := htsA (atoms_spec (ws := wsK0_covered) B.pre)
  have hown : s.vm.findClass RK0 = some m.cls := findClass_of_methodNamed B.named
  have hlocks := B.notSynchronized
  subst hsz
  have hD := hD0.self (sz := s.heap.size)
  generalize hAe : va_A (wM oa tra tra1 tra2 tra3 tia tia1 tia2 tia3 rua rua1 rua2 rua3 rua4 cha cha1 cha2 cha3 foa foa1 foa2 sba cI cZ cB cC ocs oal olt ols trso trob trme trwi tiso tiob time tiwi run ruki ruta rupr runu chn chpu chco chwe fon fose fosu) s.heap.size = A at hD ⊢
  have hA : ∀ q : Nat, s.heap.size ≤ q → A q := fun q h => by rw [← hAe]; exact Or.inr h
  refine kstart (A := A) hP (fun H hP hS => ?_)
  have hl := lv_entry ([.ref oa, .int v1]) (n := 2) (Nat.le_of_ble_eq_true rfl)
  rw [lg_entry_eq]
  generalize (lg_sl ([.ref oa, .int v1]) ++ List.replicate (2 - (lg_sl ([.ref oa, .int v1])).length) Slot.unset).toArray = ls at hl ⊢
  have hl : lv_has ls 2 [(0, .ref oa), (1, .int v1)] := hl
  unfold mK0_covered at hm
  refine lv_aload_n hx hb dK0_covered_0 rfl (lv_at hl 0 rfl) ?_
  refine va_get (D := D) (ci := 0) (v := .int ocs) (C := RK0) (T := TK0) (N := 10) hx hb hts inK0 hown hK hP 0 rfl rfl 6 (by decide) (hts _ wdt1_149) (fun _ h9 => h9) rfl dK0_covered_1 ?_
  refine lv_iload_n hx hb dK0_covered_4 rfl (lv_at hl 1 rfl) ?_
  obtain ⟨x1, ec2, hm⟩ := bd1_s hm
  have hPc : va_P D vwCl [] H := va_P0
  have hDc : va_D A [] := va_D0
  refine k_calli0 (va_runS (As := [.int ocs, .int v1]) (rest := []) ⟨hx, hb, hml, hown, hts⟩ (kK0_nthMember l D cI cZ cB cC H.size ocs v1 x1 ec2) (va_cwS 2 hts (gdS wdt2_38 wdt2_39 wdt1_1 gkK0_nthMember) rfl rfl rfl (by decide +kernel) ⟨Nat.le_of_ble_eq_true rfl, Nat.le_of_ble_eq_true rfl⟩) ⟨Pr_blind, fun U hU hW => ⟨rfl, Pr_at hK hN hPc hDc hU hW⟩⟩ rfl rfl hl.1 rfl (lv_room (Nat.le_of_ble_eq_true rfl)) dK0_covered_5 ⟨Nat.le_of_ble_eq_true rfl, Nat.le_of_ble_eq_true rfl⟩) hP hD hS hA (fun H locs hP hD hS => ?_)
  replace hm := Option.some.inj hm
  subst hm
  exact k_reti hx hb hr hlocks hP hD hS dK0_covered_8
def mJ2_stringSize_A16 (i1j11 : Int32) : Option (Int32) :=
  some (10 + i1j11)
def mJ2_stringSize_B16 (i0j11 : Int32) (i1j11 : Int32) (kx16 : Option (Int32)) (rc16 : Int32 → Int32 → Option (Int32)) (i2l16 : Int32) (i3l16 : Int32) : Option (Int32) :=
  if 10 ≤ i3l16 then
  (kx16)
  else
  (if i0j11 ≤ i2l16 then
    (bd1 (some (10 * i2l16)) fun x1 => bd1 (some (i3l16 + 1)) fun x2 => rc16 x1 x2)
    else
    (some (i3l16 + i1j11)))
def mJ2_stringSize_L16 (i0j11 : Int32) (i1j11 : Int32) (kx16 : Option (Int32)) : Nat → Int32 → Int32 → Option (Int32)
  | 0, _, _ => none
  | n + 1, i2l16, i3l16 => mJ2_stringSize_B16 i0j11 i1j11 kx16 (mJ2_stringSize_L16 i0j11 i1j11 kx16 n) i2l16 i3l16
def mJ2_stringSize_J11 (i0j11 : Int32) (i1j11 : Int32) : Option (Int32) :=
  mJ2_stringSize_L16 i0j11 i1j11 (mJ2_stringSize_A16 i1j11) 5000 ((-10)) 1
def mJ2_stringSize (v0 : Int32) : Option (Int32) :=
  if v0 < 0 then
  (mJ2_stringSize_J11 v0 1)
  else
  (bd1 (some (-v0)) fun x3 => mJ2_stringSize_J11 x3 0)
abbrev rmJ2_stringSize : Room := { frames := 0, cells := 0, slots := 0, locals := 0 }
set_option maxHeartbeats 4000000 in
set_option maxRecDepth 100000 in
theorem kJ2_stringSize (l : Launch) (D : va_G) (cI cZ cB cC : ClassId) (sz : Nat) (v0 : Int32) (r0 : Int32) (hm : mJ2_stringSize v0 = some r0) : Met l yJ2_stringSize wsJ2_stringSize rmJ2_stringSize (va_Pc [.int v0] (Pr D (tyL cI cZ cB cC) sz [])) (QI D (va_A [] sz) r0 []) 0 0 (va_A [] sz) := by
  refine Met.ofW (cc := cJ2_stringSize) (maxL := 4) (ret := (some .int)) (by decide) rfl ?_
  intro p e s m args below meth c s₁ B hml hv
  obtain ⟨rfl, hsz, hP, hK, hD0, hN⟩ := hv
  have hx := B.exec
  have hb := B.bytes
  have hr := B.returns
  have hts := htsA (atoms_spec (ws := wsJ2_stringSize) B.pre)
  have hown : s.vm.findClass RJ2 = some m.cls := findClass_of_methodNamed B.named
  have hlocks := B.notSynchronized
  subst hsz
  have hD := hD0.self (sz := s.heap.size)
  generalize hAe : va_A [] s.heap.size = A at hD ⊢
  have hA : ∀ q : Nat, s.heap.size ≤ q → A q := fun q h => by rw [← hAe]; exact Or.inr h
  refine kstart (A := A) hP (fun H hP hS => ?_)
  have hl := lv_entry ([.int v0]) (n := 4) (Nat.le_of_ble_eq_true rfl)
  rw [lg_entry_eq]
  generalize (lg_sl ([.int v0]) ++ List.replicate (4 - (lg_sl ([.int v0])).length) Slot.unset).toArray = ls at hl ⊢
  have hl : lv_has ls 4 [(0, .int v0)] := hl
  unfold mJ2_stringSize at hm
  refine lv_iconst (v := 1) hx hb dJ2_stringSize_0 (by decide) ?_
  refine lv_istore_n (lv' := [(1, .int 1), (0, .int v0)]) hx hb dJ2_stringSize_1 rfl hl (by decide) rfl (fun ls hl => ?_)
  refine lv_iload_n hx hb dJ2_stringSize_2 rfl (lv_at hl 1 rfl) ?_
  have jn11 : ∀ (i0j11 : Int32) (i1j11 : Int32) (H : Heap) (locs : List Loc) (ls : Array Slot), mJ2_stringSize_J11 i0j11 i1j11 = some r0 → va_P D vwCl [] H → va_D A [] → va_S A s.heap H locs → lv_has ls 4 [(0, .int i0j11), (1, .int i1j11)] → W p l e (headSpec wsJ2_stringSize rmJ2_stringSize).room s m ([.int v0] : List Value).toArray below meth c H locs 0 0 (MQ below (QI D A r0 []) ([.int v0] : List Value).toArray s 0 0 A) (F0 m 11 ls []) := by
    intro i0j11 i1j11 H locs ls hm hP hD hS hl
    unfold mJ2_stringSize_J11 at hm
    refine lv_bipush (v := (-10)) hx hb dJ2_stringSize_11 (by decide) ?_
    refine lv_istore_n (lv' := [(2, .int ((-10))), (0, .int i0j11), (1, .int i1j11)]) hx hb dJ2_stringSize_13 rfl hl (by decide) rfl (fun ls hl => ?_)
    refine lv_iconst (v := 1) hx hb dJ2_stringSize_14 (by decide) ?_
    refine lv_istore_n (lv' := [(3, .int 1), (2, .int ((-10))), (0, .int i0j11), (1, .int i1j11)]) hx hb dJ2_stringSize_15 rfl hl (by decide) rfl (fun ls hl => ?_)
    have lx16 : ∀ (H : Heap) (locs : List Loc) (ls : Array Slot), mJ2_stringSize_A16 i1j11 = some r0 → va_P D vwCl [] H → va_D A [] → va_S A s.heap H locs → lv_has ls 4 [(1, .int i1j11)] → W p l e (headSpec wsJ2_stringSize rmJ2_stringSize).room s m ([.int v0] : List Value).toArray below meth c H locs 0 0 (MQ below (QI D A r0 []) ([.int v0] : List Value).toArray s 0 0 A) (F0 m 42 ls []) := by
      intro H locs ls hm hP hD hS hl
      unfold mJ2_stringSize_A16 at hm
      refine lv_bipush (v := 10) hx hb dJ2_stringSize_42 (by decide) ?_
      refine lv_iload_n hx hb dJ2_stringSize_44 rfl (lv_at hl 0 rfl) ?_
      refine lv_iadd hx hb dJ2_stringSize_45 ?_
      replace hm := Option.some.inj hm
      subst hm
      exact k_reti hx hb hr hlocks hP hD hS dJ2_stringSize_46
    have lp16 : ∀ (n16 : Nat) (i2l16 : Int32) (i3l16 : Int32) (H : Heap) (locs : List Loc) (ls : Array Slot), mJ2_stringSize_L16 i0j11 i1j11 (mJ2_stringSize_A16 i1j11) n16 i2l16 i3l16 = some r0 → va_P D vwCl [] H → va_D A [] → va_S A s.heap H locs → lv_has ls 4 [(3, .int i3l16), (2, .int i2l16), (0, .int i0j11), (1, .int i1j11)] → W p l e (headSpec wsJ2_stringSize rmJ2_stringSize).room s m ([.int v0] : List Value).toArray below meth c H locs 0 0 (MQ below (QI D A r0 []) ([.int v0] : List Value).toArray s 0 0 A) (F0 m 16 ls []) := by
      intro n16
      induction n16 with
      | zero => intro i2l16 i3l16 H locs ls hm; exact nomatch (show none = _ from hm)
      | succ n16 ih16 =>
        intro i2l16 i3l16 H locs ls hm hP hD hS hl
        replace hm : mJ2_stringSize_B16 i0j11 i1j11 (mJ2_stringSize_A16 i1j11) (mJ2_stringSize_L16 i0j11 i1j11 (mJ2_stringSize_A16 i1j11) n16) i2l16 i3l16 = some r0 := hm
        unfold mJ2_stringSize_B16 at hm
        refine lv_iload_n hx hb dJ2_stringSize_16 rfl (lv_at hl 0 rfl) ?_
        refine lv_bipush (v := 10) hx hb dJ2_stringSize_17 (by decide) ?_
        refine lv_icmp_ge (tgt := 42) hx hb dJ2_stringSize_19 (by decide) (fun hc => ?_) (fun hc => ?_)
        · replace hm := ift hm hc
          exact lx16  _ _ _ hm hP hD hS (lv_sub hl [3] rfl)
        · replace hm := iff_ hm hc
          refine lv_iload_n hx hb dJ2_stringSize_22 rfl (lv_at hl 2 rfl) ?_
          refine lv_iload_n hx hb dJ2_stringSize_23 rfl (lv_at hl 1 rfl) ?_
          refine lv_icmp_le (tgt := 31) hx hb dJ2_stringSize_24 (by decide) (fun hc => ?_) (fun hc => ?_)
          · replace hm := ift hm hc
            refine lv_bipush (v := 10) hx hb dJ2_stringSize_31 (by decide) ?_
            refine lv_iload_n hx hb dJ2_stringSize_33 rfl (lv_at hl 1 rfl) ?_
            refine lv_imul hx hb dJ2_stringSize_34 ?_
            obtain ⟨x1, ex1, hm⟩ := bd1_s hm
            refine topi (Option.some.inj ex1) ?_
            refine lv_istore_n (lv' := [(2, .int x1), (3, .int i3l16), (0, .int i0j11), (1, .int i1j11)]) hx hb dJ2_stringSize_35 rfl hl (by decide) rfl (fun ls hl => ?_)
            obtain ⟨x2, ex2, hm⟩ := bd1_s hm
            refine lv_iinc (v := x2) (lv' := [(3, .int x2), (2, .int x1), (0, .int i0j11), (1, .int i1j11)]) hx hb dJ2_stringSize_36 hl (k := 1) rfl (by rw [← Option.some.inj ex2]; rfl) (by decide) rfl (fun ls hl => ?_)
            refine lv_goto (tgt := 16) hx hb dJ2_stringSize_39 (by decide) ?_
            exact ih16 x1 x2 _ _ _ hm hP hD hS (lv_sub hl [0, 1, 2, 3] rfl)
          · replace hm := iff_ hm hc
            refine lv_iload_n hx hb dJ2_stringSize_27 rfl (lv_at hl 0 rfl) ?_
            refine lv_iload_n hx hb dJ2_stringSize_28 rfl (lv_at hl 3 rfl) ?_
            refine lv_iadd hx hb dJ2_stringSize_29 ?_
            replace hm := Option.some.inj hm
            subst hm
            exact k_reti hx hb hr hlocks hP hD hS dJ2_stringSize_30
    exact lp16 5000 ((-10)) 1 _ _ _ hm hP hD hS (lv_sub hl [0, 1, 2, 3] rfl)
  refine lv_if_lt (tgt := 11) hx hb dJ2_stringSize_3 (by decide) (fun hc => ?_) (fun hc => ?_)
  · replace hm := ift hm hc
    exact jn11 v0 1 _ _ _ hm hP hD hS (lv_sub hl [1, 0] rfl)
  · replace hm := iff_ hm hc
    refine lv_iconst (v := 0) hx hb dJ2_stringSize_6 (by decide) ?_
    refine lv_istore_n (lv' := [(1, .int 0), (0, .int v0)]) hx hb dJ2_stringSize_7 rfl hl (by decide) rfl (fun ls hl => ?_)
    refine lv_iload_n hx hb dJ2_stringSize_8 rfl (lv_at hl 1 rfl) ?_
    refine lv_ineg hx hb dJ2_stringSize_9 ?_
    obtain ⟨x3, ex3, hm⟩ := bd1_s hm
    refine topi (Option.some.inj ex3) ?_
    refine lv_istore_n (lv' := [(0, .int x3), (1, .int 0)]) hx hb dJ2_stringSize_10 rfl hl (by decide) rfl (fun ls hl => ?_)
    exact jn11 x3 0 _ _ _ hm hP hD hS (lv_sub hl [0, 1] rfl)
def mJ4_canEncode (v0 : Int32) : Option (Int32) :=
  if 255 < v0 then
  (some 0)
  else
  (some 1)
abbrev rmJ4_canEncode : Room := { frames := 0, cells := 0, slots := 0, locals := 0 }
set_option maxHeartbeats 4000000 in
set_option maxRecDepth 100000 in
theorem kJ4_canEncode (l : Launch) (D : va_G) (cI cZ cB cC : ClassId) (sz : Nat) (v0 : Int32) (r0 : Int32) (hm : mJ4_canEncode v0 = some r0) : Met l yJ4_canEncode wsJ4_canEncode rmJ4_canEncode (va_Pc [.int v0] (Pr D (tyL cI cZ cB cC) sz [])) (QI D (va_A [] sz) r0 []) 0 0 (va_A [] sz) := by
  refine Met.ofW (cc := cJ4_canEncode) (maxL := 1) (ret := (some .boolean)) (by decide) rfl ?_
  intro p e s m args below meth c s₁ B hml hv
  obtain ⟨rfl, hsz, hP, hK, hD0, hN⟩ := hv
  have hx := B.exec
  have hb := B.bytes
  have hr := B.returns
  have hts := htsA (atoms_spec (ws := wsJ4_canEncode) B.pre)
  have hown : s.vm.findClass RJ4 = some m.cls := findClass_of_methodNamed B.named
  have hlocks := B.notSynchronized
  subst hsz
  have hD := hD0.self (sz := s.heap.size)
  generalize hAe : va_A [] s.heap.size = A at hD ⊢
  have hA : ∀ q : Nat, s.heap.size ≤ q → A q := fun q h => by rw [← hAe]; exact Or.inr h
  refine kstart (A := A) hP (fun H hP hS => ?_)
  have hl := lv_entry ([.int v0]) (n := 1) (Nat.le_of_ble_eq_true rfl)
  rw [lg_entry_eq]
  generalize (lg_sl ([.int v0]) ++ List.replicate (1 - (lg_sl ([.int v0])).length) Slot.unset).toArray = ls at hl ⊢
  have hl : lv_has ls 1 [(0, .int v0)] := hl
  unfold mJ4_canEncode at hm
  refine lv_iload_n hx hb dJ4_canEncode_0 rfl (lv_at hl 0 rfl) ?_
  refine lv_sipush (v := 255) hx hb dJ4_canEncode_1 (by decide) ?_
  refine lv_icmp_gt (tgt := 11) hx hb dJ4_canEncode_4 (by decide) (fun hc => ?_) (fun hc => ?_)
  · replace hm := ift hm hc
    refine lv_iconst (v := 0) hx hb dJ4_canEncode_11 (by decide) ?_
    replace hm := Option.some.inj hm
    subst hm
    exact k_retz hx hb hr hlocks rfl hP hD hS dJ4_canEncode_12
  · replace hm := iff_ hm hc
    refine lv_iconst (v := 1) hx hb dJ4_canEncode_7 (by decide) ?_
    refine lv_goto (tgt := 12) hx hb dJ4_canEncode_8 (by decide) ?_
    replace hm := Option.some.inj hm
    subst hm
    exact k_retz hx hb hr hlocks rfl hP hD hS dJ4_canEncode_12
