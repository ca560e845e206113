def mJ6_copyOf (bn : Nat) (bf : Nat → Int32) (v1 : Int32) : Option (Nat × (Nat → Int32)) :=
  if v1 = nI bn then none
  else if v1 < 0 then none
  else if v1.toNatClampNeg ≤ 536870912 then bd1 (cpyt bf bn (fun _ => 0) v1.toNatClampNeg 0 0 (imin (nI bn) v1)) fun x1 => some (v1.toNatClampNeg, x1)
  else none
abbrev rmJ6_copyOf (q : Nat) : Room := { frames := 1, cells := 1, slots := q, locals := 80 }
set_option maxHeartbeats 4000000 in
set_option maxRecDepth 100000 in
theorem kJ6_copyOf (l : Launch) (D : va_G) (cI cZ cB cC : ClassId) (sz : Nat) (ba : Nat) (bn : Nat) (bf : Nat → Int32) (v1 : Int32) (q : Nat) (bf_r : Nat → Int32) (hm : mJ6_copyOf bn bf v1 = some (q, bf_r)) : Met l yJ6_copyOf wzJ6_copyOf (rmJ6_copyOf q) (va_Pc [.ref ba, .int v1] (Pr D (tyL cI cZ cB cC) sz (wB ba cI cZ cB cC bn bf))) (va_Qr (fun (_ : Unit) => True) (fun _ a t => Po D (va_A (wB ba cI cZ cB cC bn bf) sz) [(ba, .inl (cB, bn, .inl bf)), (a, .inl (cB, q, .inl bf_r))] t) (va_A (wB ba cI cZ cB cC bn bf) sz)) 1 q (va_A (wB ba cI cZ cB cC bn bf) sz) := by
  refine Met.ofW (cc := cJ6_copyOf) (maxL := 3) (ret := (some (.array .byte))) (by decide) rfl ?_
  intro p e s m args below meth c s₁ B hml hv
  obtain ⟨rfl, hsz, hP, hK, hD0, hN⟩ := hv
  have hx := B.exec
  have hb := B.bytes
  have hr := B.returns
  have hts := htsB (atoms_spec (ws := wzJ6_copyOf) B.pre)
  have hown : s.vm.findClass RJ6 = some m.cls := findClass_of_methodNamed B.named
  have hlocks := B.notSynchronized
  subst hsz
  have hD := hD0.self (sz := s.heap.size)
  generalize hAe : va_A (wB ba cI cZ cB cC bn bf) s.heap.size = A at hD ⊢
  have hA : ∀ q : Nat, s.heap.size ≤ q → A q := fun q h => by rw [← hAe]; exact Or.inr h
  refine kstart (A := A) hP (fun H hP hS => ?_)
  have hl := lv_entry ([.ref ba, .int v1]) (n := 3) (Nat.le_of_ble_eq_true rfl)
  rw [lg_entry_eq]
  generalize (lg_sl ([.ref ba, .int v1]) ++ List.replicate (3 - (lg_sl ([.ref ba, .int v1])).length) Slot.unset).toArray = ls at hl ⊢
  have hl : lv_has ls 3 [(0, .ref ba), (1, .int v1)] := hl
  unfold mJ6_copyOf at hm
  refine lv_iload_n hx hb dJ6_copyOf_0 rfl (lv_at hl 1 rfl) ?_
  refine lv_aload_n hx hb dJ6_copyOf_1 rfl (lv_at hl 0 rfl) ?_
  refine va_alen hx hb hK hP 0 2 rfl rfl (v := nI bn) rfl dJ6_copyOf_2 ?_
  refine lv_icmp_ne (tgt := 14) hx hb dJ6_copyOf_3 (by decide) (fun hc => ?_) (fun hc => ?_)
  · replace hm := iff_ hm hc
    by_cases hneg : v1 < 0
    · replace hm := ift hm hneg
      exact nomatch hm
    · replace hm := iff_ hm hneg
      by_cases hbig : v1.toNatClampNeg ≤ 536870912
      · replace hm := ift hm hbig
        obtain ⟨x1, ex1, hm⟩ := bd1_s hm
        obtain ⟨hc1, hc2, hc3, hc4, hc5, hc6, ex1⟩ := cpyt_s ex1
        replace hm := Option.some.inj hm
        simp only [Prod.mk.injEq] at hm
        obtain ⟨rfl, rfl⟩ := hm
        refine lv_iload_n hx hb dJ6_copyOf_14 rfl (lv_at hl 1 rfl) ?_
        refine va_newa (atype := .byte) (ty := .byte) (N' := v1.toNatClampNeg) (a0 := (v1.toNatClampNeg, .inl fun _ => 0)) hx hb (hts _ (up wdt1_142)) rfl hK hP hD hS hA (fun _ => rfl) hneg rfl (by show v1.toNatClampNeg * 1 ≤ 536870912; omega) (Nat.le_of_ble_eq_true rfl) (by show 0 + v1.toNatClampNeg ≤ v1.toNatClampNeg; omega) dJ6_copyOf_15 (fun q1 cA H hK1 hP hD hS => ?_)
        obtain rfl := tyU hK1 2 (cI := cB) rfl (by decide)
        have hP : va_P D vwCl [(ba, .inl (cB, bn, .inl bf)), (q1, .inl (cB, v1.toNatClampNeg, .inl fun _ => 0))] H := hP
        have hD : va_D A [(ba, .inl (cB, bn, .inl bf)), (q1, .inl (cB, v1.toNatClampNeg, .inl fun _ => 0))] := hD
        refine W.widen (k := 1) (n := v1.toNatClampNeg) (by omega) (by omega) ?_
        refine lv_astore_n (lv' := [(2, .ref q1), (0, .ref ba), (1, .int v1)]) hx hb dJ6_copyOf_17 rfl hl (by decide) rfl (fun ls hl => ?_)
        refine lv_aload_n hx hb dJ6_copyOf_18 rfl (lv_at hl 1 rfl) ?_
        refine lv_iconst (v := 0) hx hb dJ6_copyOf_19 (by decide) ?_
        refine lv_aload_n hx hb dJ6_copyOf_20 rfl (lv_at hl 0 rfl) ?_
        refine lv_iconst (v := 0) hx hb dJ6_copyOf_21 (by decide) ?_
        refine lv_aload_n hx hb dJ6_copyOf_22 rfl (lv_at hl 1 rfl) ?_
        refine va_alen hx hb hK hP 0 2 rfl rfl (v := nI bn) rfl dJ6_copyOf_23 ?_
        refine lv_iload_n hx hb dJ6_copyOf_24 rfl (lv_at hl 2 rfl) ?_
        refine va_mmin hx hb (by rw [hml]; exact hl.1.symm) hown (hts _ (up wdt3_1)) (hts _ (up wdt1_228)) (hts _ (up wdt1_13)) (hts _ (up wdt1_229)) (Nat.le_of_ble_eq_true rfl) (Nat.le_of_ble_eq_true rfl) (Nat.le_of_ble_eq_true rfl) (Nat.le_refl _) dJ6_copyOf_25 ?_
        refine topi (y := imin (nI bn) v1) rfl ?_
        refine va_copyi hx hb (by rw [hml]; exact hl.1.symm) hown (hts _ (up wdt3_2)) (hts _ (up wdt2_141)) (hts _ (up wdt2_140)) (hts _ (up wdt1_14)) hK hP hD hS 0 1 2 2 rfl rfl rfl rfl rfl hc1 hc2 hc3 hc4 hc5 hc6 (Nat.le_of_ble_eq_true rfl) (by show (List.map (fun v : Value => v.category) []).sum + (nativeFrameWords "java/lang/System" "arraycopy" 5 + 11) ≤ 80; decide) dJ6_copyOf_28 (fun H locs hP hD hS => ?_)
        rw [ex1] at hP hD
        have hP : va_P D vwCl [(ba, .inl (cB, bn, .inl bf)), (q1, .inl (cB, v1.toNatClampNeg, .inl x1))] H := hP
        have hD : va_D A [(ba, .inl (cB, bn, .inl bf)), (q1, .inl (cB, v1.toNatClampNeg, .inl x1))] := hD
        refine lv_aload_n hx hb dJ6_copyOf_31 rfl (lv_at hl 0 rfl) ?_
        exact W.aret (v := .ref q1) hx hb hr (Or.inr ⟨_, rfl⟩) (Or.inr ⟨_, rfl⟩) (fun t ht hW => ⟨⟨(), q1, rfl, trivial, by rw [ht]; exact hP, hD⟩, hS.F ht⟩) hS.2.2 dJ6_copyOf_32 hlocks
      · replace hm := iff_ hm hbig
        exact nomatch hm
  · replace hm := ift hm hc
    exact nomatch hm
def mJ1_ens (sco : Int32) (sn : Nat) (sb : Nat → Int32) (v1 : Int32) : Option (Nat × (Nat → Int32) × Nat × Nat) :=
  bd1 (some ((nI sn) >>> (sco &&& 31))) fun x1 => if (v1 - x1) ≤ 0 then
  (some (sn, sb, 0, 0))
  else
  (bd1 (mJ1_newCapacity sco sn v1) fun x2 => bd2 (mJ6_copyOf sn sb (x2 <<< (sco &&& 31))) fun q r => some (q, r, 1, q))
abbrev rmJ1_ens (mc ms : Nat) : Room := { frames := 4, cells := mc, slots := ms, locals := 200 }
set_option maxHeartbeats 4000000 in
set_option maxRecDepth 100000 in
theorem kJ1_ens (l : Launch) (D : va_G) (cI cZ cB cC : ClassId) (sz : Nat) (sa : Nat) (sco : Int32) (sml : Int32) (sct : Int32) (s_ad : Nat) (sn : Nat) (sb : Nat → Int32) (v1 : Int32) (sn_r : Nat) (sb_r : Nat → Int32) (mc_r ms_r : Nat) (hm : mJ1_ens sco sn sb v1 = some (sn_r, sb_r, mc_r, ms_r)) : Met l yJ1_ensureCapacityInternal wzJ1_ensureCapacityInternal (rmJ1_ens mc_r ms_r) (va_Pc [.ref sa, .int v1] (PrE0 D (tyL cI cZ cB cC) sz (wS sa cI cZ cB cC sco sml sct s_ad sn sb))) (QVd D (va_A (wS sa cI cZ cB cC sco sml sct s_ad sn sb) sz) (fun u => wS sa cI cZ cB cC sco sml sct u sn_r sb_r)) mc_r ms_r (va_A (wS sa cI cZ cB cC sco sml sct s_ad sn sb) sz) := by
  refine Met.ofW (cc := cJ1_ensureCapacityInternal) (maxL := 3) (ret := none) (by decide) rfl ?_
  intro p e s m args below meth c s₁ B hml hv
  obtain ⟨rfl, ⟨hsz, hP, hK, hD0, hN⟩, hE⟩ := hv
  have hx := B.exec
  have hb := B.bytes
  have hr := B.returns
  have hts := htsB (atoms_spec (ws := wzJ1_ensureCapacityInternal) B.pre)
  have hown : s.vm.findClass RJ1 = some m.cls := findClass_of_methodNamed B.named
  have hlocks := B.notSynchronized
  subst hsz
  have hD := hD0.self (sz := s.heap.size)
  generalize hAe : va_A (wS sa cI cZ cB cC sco sml sct s_ad sn sb) s.heap.size = A at hD hE ⊢
  have hA : ∀ q : Nat, s.heap.size ≤ q → A q := fun q h => by rw [← hAe]; exact Or.inr h
  refine kstart (A := A) hP (fun H hP hS => ?_)
  have hl := lv_entry ([.ref sa, .int v1]) (n := 3) (Nat.le_of_ble_eq_true rfl)
  rw [lg_entry_eq]
  generalize (lg_sl ([.ref sa, .int v1]) ++ List.replicate (3 - (lg_sl ([.ref sa, .int v1])).length) Slot.unset).toArray = ls at hl ⊢
  have hl : lv_has ls 3 [(0, .ref sa), (1, .int v1)] := hl
  unfold mJ1_ens at hm
  obtain ⟨hE0z, ⟨dg1, hE1z, hE1t⟩, ⟨dg2, hE2z, hE2t⟩, hE4, ⟨ka0, kv0, hkr0, hk0⟩, ⟨ka1, kv1, hkr1, hk1⟩, ⟨ka2, kv2, hkr2, hk2⟩⟩ := id hE
  refine lv_aload_n hx hb dJ1_ens0_0 rfl (lv_at hl 0 rfl) ?_
  refine va_get (D := D) (ci := 6) (v := .ref s_ad) (C := RK6) (T := TK6) (N := 4) hx hb hts inK6b hown hK hP 0 rfl rfl 0 (by decide) (hts _ (up wdt1_129)) (fun _ h9 => h9) rfl dJ1_ens0_1 ?_
  refine va_alen hx hb hK hP 1 2 rfl rfl (v := nI sn) rfl dJ1_ens0_4 ?_
  refine lv_aload_n hx hb dJ1_ens0_5 rfl (lv_at hl 0 rfl) ?_
  refine va_get (D := D) (ci := 6) (v := .int sco) (C := RK6) (T := TK6) (N := 4) hx hb hts inK6b hown hK hP 0 rfl rfl 1 (by decide) (hts _ (up wdt1_130)) (fun _ h9 => h9) rfl dJ1_ens0_6 ?_
  refine lv_ishr hx hb dJ1_ens0_9 ?_
  obtain ⟨x1, ex1, hm⟩ := bd1_s hm
  refine topi (Option.some.inj ex1) ?_
  refine lv_istore_n (lv' := [(2, .int x1), (0, .ref sa), (1, .int v1)]) hx hb dJ1_ens0_10 rfl hl (by decide) rfl (fun ls hl => ?_)
  refine lv_iload_n hx hb dJ1_ens0_11 rfl (lv_at hl 2 rfl) ?_
  refine lv_iload_n hx hb dJ1_ens0_12 rfl (lv_at hl 0 rfl) ?_
  refine lv_isub hx hb dJ1_ens0_13 ?_
  refine lv_if_le (tgt := 38) hx hb dJ1_ens0_14 (by decide) (fun hc => ?_) (fun hc => ?_)
  · replace hm := ift hm hc
    replace hm := Option.some.inj hm
    simp only [Prod.mk.injEq] at hm
    obtain ⟨rfl, rfl, rfl, rfl⟩ := hm
    exact k_retvd hx hb hr hlocks (u := s_ad) hP hD hS dJ1_ens0_38
  · replace hm := iff_ hm hc
    refine lv_aload_n hx hb dJ1_ens0_17 rfl (lv_at hl 1 rfl) ?_
    refine lv_aload_n hx hb dJ1_ens0_18 rfl (lv_at hl 1 rfl) ?_
    refine va_get (D := D) (ci := 6) (v := .ref s_ad) (C := RK6) (T := TK6) (N := 4) hx hb hts inK6b hown hK hP 0 rfl rfl 0 (by decide) (hts _ (up wdt1_129)) (fun _ h9 => h9) rfl dJ1_ens0_19 ?_
    refine lv_aload_n hx hb dJ1_ens0_22 rfl (lv_at hl 1 rfl) ?_
    refine lv_iload_n hx hb dJ1_ens0_23 rfl (lv_at hl 2 rfl) ?_
    obtain ⟨x2, ec3, hm⟩ := bd1_s hm
    have hPc := hP.sub (ws' := (wS sa cI cZ cB cC sco sml sct s_ad sn sb)) [0, 1] rfl
    have hDc := hD.sub (ws' := (wS sa cI cZ cB cC sco sml sct s_ad sn sb)) [0, 1] (by decide) rfl
    have hFc := va_free (wc := (wS sa cI cZ cB cC sco sml sct s_ad sn sb)) hD hS hA [0, 1] rfl
    refine k_calli (wr := []) (w1 := (wS sa cI cZ cB cC sco sml sct s_ad sn sb)) (ws' := (wS sa cI cZ cB cC sco sml sct s_ad sn sb)) (va_runU (As := [.int v1]) (rest := [.ref s_ad, .ref sa]) ⟨hx, hb, hml, hown, hts⟩ (kJ1_newCapacity l D cI cZ cB cC H.size sa sco sml sct s_ad sn sb v1 x2 ec3) (va_cwU (C := RK6) (owner := RJ1) 1 hts (gdU2 (up wdt2_216) (up wdt4_205) (List.mem_append_left _ (List.mem_of_getElem? (l := sbSel) (i := 1) rfl)) (up wdt2_218) (up wdt1_6) gzJ1_newCapacity) rfl rfl rfl rfl (by decide +kernel) ⟨Nat.le_of_ble_eq_true rfl, Nat.le_of_ble_eq_true rfl⟩) ⟨PrE0_blind, va_recv hK hPc (ci := 6) (q0 := 0) rfl rfl, fun U hU hW => ⟨rfl, Pr_at hK hN hPc hDc hU hW, EN_at hE hS hFc hU hW⟩⟩ rfl rfl hl.1 rfl (lv_room (Nat.le_of_ble_eq_true rfl)) dJ1_ens0_24 ⟨(by show 0 + 0 ≤ mc_r; omega), (by show 0 + 0 ≤ ms_r; omega)⟩) hP hD hS hA [0, 1] [] [0, 1] rfl rfl (by decide) (by decide) (by decide) rfl (fun H locs hP hD hS => ?_)
    refine lv_aload_n hx hb dJ1_ens0_27 rfl (lv_at hl 1 rfl) ?_
    refine va_get (D := D) (ci := 6) (v := .int sco) (C := RK6) (T := TK6) (N := 4) hx hb hts inK6b hown hK hP 0 rfl rfl 1 (by decide) (hts _ (up wdt1_130)) (fun _ h9 => h9) rfl dJ1_ens0_28 ?_
    refine lv_ishl hx hb dJ1_ens0_31 ?_
    obtain ⟨q0, r0, ec5, hm⟩ := bd2_s hm
    replace hm := Option.some.inj hm
    simp only [Prod.mk.injEq] at hm
    obtain ⟨rfl, rfl, rfl, rfl⟩ := hm
    have hPc := hP.sub (ws' := (wB s_ad cI cZ cB cC sn sb)) [1] rfl
    have hDc := hD.sub (ws' := (wB s_ad cI cZ cB cC sn sb)) [1] (by decide) rfl
    have hFc := va_free (wc := (wB s_ad cI cZ cB cC sn sb)) hD hS hA [1] rfl
    refine va_callr (va_runS (As := [.ref s_ad, .int (x2 <<< (sco &&& 31))]) (rest := [.ref sa]) ⟨hx, hb, hml, hown, hts⟩ (kJ6_copyOf l D cI cZ cB cC H.size s_ad sn sb (x2 <<< (sco &&& 31)) q0 r0 ec5) (va_cwS 2 hts (gdS2 (up wdt2_231) (up wdt2_232) (up wdt1_11) gzJ6_copyOf) rfl rfl rfl (by decide +kernel) ⟨Nat.le_of_ble_eq_true rfl, Nat.le_of_ble_eq_true rfl⟩) ⟨Pr_blind, fun U hU hW => ⟨rfl, Pr_at hK hN hPc hDc hU hW⟩⟩ rfl rfl hl.1 rfl (lv_room (Nat.le_of_ble_eq_true rfl)) dJ1_ens0_32 ⟨(by show 0 + 1 ≤ 1; omega), (by show 0 + q0 ≤ q0; omega)⟩) hS (fun q _ h => hFc q h) hFc (fun u qa t H1 locs ht hvm hw hB hz1 hk1 hS => ?_)
    obtain ⟨hP1, hD1⟩ := hB
    rw [ht] at hP1
    obtain ⟨hP, hD⟩ := va_join (wr := [(sa, .inr (6, [.ref s_ad, .int sco, .int sml, .int sct]))]) (w1 := [(s_ad, .inl (cB, sn, .inl sb)), (qa, .inl (cB, q0, .inl r0))]) hP hD [1] [0] rfl rfl (by decide) (by decide) hk1 hFc hP1 hD1
    generalize H1 = H at hP hS ⊢
    have hP : va_P D vwCl [(sa, .inr (6, [.ref s_ad, .int sco, .int sml, .int sct])), (s_ad, .inl (cB, sn, .inl sb)), (qa, .inl (cB, q0, .inl r0))] H := hP
    have hD : va_D A [(sa, .inr (6, [.ref s_ad, .int sco, .int sml, .int sct])), (s_ad, .inl (cB, sn, .inl sb)), (qa, .inl (cB, q0, .inl r0))] := hD
    refine va_put (D := D) (ci := 6) (v := .ref qa) (ty := .array .byte) (C := RK6) (T := TK6) (N := 4) hx hb hts inK6b tyK6 tyK6_ok nmK6 hown hK hP hD hS 0 rfl rfl 0 (by decide) (hts _ (up wdt1_129)) (fun _ h9 => h9) rfl (by decide +kernel) rfl rfl (Nat.le_of_ble_eq_true rfl) dJ1_ens0_35 (fun H locs hP hD hS => ?_)
    have hP := hP.sub (ws' := (wS sa cI cZ cB cC sco sml sct qa q0 r0)) [0, 2] rfl
    have hD := hD.sub (ws' := (wS sa cI cZ cB cC sco sml sct qa q0 r0)) [0, 2] (by decide) rfl
    refine W.widen (k := 1) (n := q0) (by omega) (by omega) ?_
    exact k_retvd hx hb hr hlocks (u := qa) hP hD hS dJ1_ens0_38
