/-! own rows: every call keeps class and reference alike, and answers alike: the law answers 1 -/
theorem ite_go {c : Prop} [Decidable c] {G : Type} {a b r : G} (h1 : c → a = r) (h2 : ¬ c → b = r) : (if c then a else b) = r := by
  by_cases h : c
  · rw [if_pos h]; exact h1 h
  · rw [if_neg h]; exact h2 h
theorem bd0_go {G : Type} {o : Option Unit} {f r : Option G} (h : o = some ()) (h2 : f = r) : bd0 o f = r := by rw [h]; exact h2
theorem bd1_go {A0 G : Type} {o : Option (A0)} {f : A0 → Option G} {r : Option G} {a0 : A0} (h : o = some a0) (h2 : f a0 = r) : bd1 o f = r := by rw [h]; exact h2
theorem bd2_go {A0 A1 G : Type} {o : Option (A0 × A1)} {f : A0 → A1 → Option G} {r : Option G} {a0 : A0} {a1 : A1} (h : o = some (a0, a1)) (h2 : f a0 a1 = r) : bd2 o f = r := by rw [h]; exact h2
theorem bd3_go {A0 A1 A2 G : Type} {o : Option (A0 × A1 × A2)} {f : A0 → A1 → A2 → Option G} {r : Option G} {a0 : A0} {a1 : A1} {a2 : A2} (h : o = some (a0, a1, a2)) (h2 : f a0 a1 a2 = r) : bd3 o f = r := by rw [h]; exact h2
theorem bd4_go {A0 A1 A2 A3 G : Type} {o : Option (A0 × A1 × A2 × A3)} {f : A0 → A1 → A2 → A3 → Option G} {r : Option G} {a0 : A0} {a1 : A1} {a2 : A2} {a3 : A3} (h : o = some (a0, a1, a2, a3)) (h2 : f a0 a1 a2 a3 = r) : bd4 o f = r := by rw [h]; exact h2
theorem bd5_go {A0 A1 A2 A3 A4 G : Type} {o : Option (A0 × A1 × A2 × A3 × A4)} {f : A0 → A1 → A2 → A3 → A4 → Option G} {r : Option G} {a0 : A0} {a1 : A1} {a2 : A2} {a3 : A3} {a4 : A4} (h : o = some (a0, a1, a2, a3, a4)) (h2 : f a0 a1 a2 a3 a4 = r) : bd5 o f = r := by rw [h]; exact h2
theorem bd6_go {A0 A1 A2 A3 A4 A5 G : Type} {o : Option (A0 × A1 × A2 × A3 × A4 × A5)} {f : A0 → A1 → A2 → A3 → A4 → A5 → Option G} {r : Option G} {a0 : A0} {a1 : A1} {a2 : A2} {a3 : A3} {a4 : A4} {a5 : A5} (h : o = some (a0, a1, a2, a3, a4, a5)) (h2 : f a0 a1 a2 a3 a4 a5 = r) : bd6 o f = r := by rw [h]; exact h2
theorem bd7_go {A0 A1 A2 A3 A4 A5 A6 G : Type} {o : Option (A0 × A1 × A2 × A3 × A4 × A5 × A6)} {f : A0 → A1 → A2 → A3 → A4 → A5 → A6 → Option G} {r : Option G} {a0 : A0} {a1 : A1} {a2 : A2} {a3 : A3} {a4 : A4} {a5 : A5} {a6 : A6} (h : o = some (a0, a1, a2, a3, a4, a5, a6)) (h2 : f a0 a1 a2 a3 a4 a5 a6 = r) : bd7 o f = r := by rw [h]; exact h2
theorem bd8_go {A0 A1 A2 A3 A4 A5 A6 A7 G : Type} {o : Option (A0 × A1 × A2 × A3 × A4 × A5 × A6 × A7)} {f : A0 → A1 → A2 → A3 → A4 → A5 → A6 → A7 → Option G} {r : Option G} {a0 : A0} {a1 : A1} {a2 : A2} {a3 : A3} {a4 : A4} {a5 : A5} {a6 : A6} {a7 : A7} (h : o = some (a0, a1, a2, a3, a4, a5, a6, a7)) (h2 : f a0 a1 a2 a3 a4 a5 a6 a7 = r) : bd8 o f = r := by rw [h]; exact h2
theorem bd9_go {A0 A1 A2 A3 A4 A5 A6 A7 A8 G : Type} {o : Option (A0 × A1 × A2 × A3 × A4 × A5 × A6 × A7 × A8)} {f : A0 → A1 → A2 → A3 → A4 → A5 → A6 → A7 → A8 → Option G} {r : Option G} {a0 : A0} {a1 : A1} {a2 : A2} {a3 : A3} {a4 : A4} {a5 : A5} {a6 : A6} {a7 : A7} {a8 : A8} (h : o = some (a0, a1, a2, a3, a4, a5, a6, a7, a8)) (h2 : f a0 a1 a2 a3 a4 a5 a6 a7 a8 = r) : bd9 o f = r := by rw [h]; exact h2
theorem FO2_up {fon found : Int32} {se sets : Nat → Int32} {n n' k : Nat} (h : FO2 fon se found sets n k) (hn : n ≤ n') : FO2 fon se found sets n' k := ⟨h.1, h.2.1, h.2.2.1, fun i hi => ⟨(h.2.2.2 i hi).1, (h.2.2.2 i hi).2.1, fun c a b => (h.2.2.2 i hi).2.2 c (by omega) b⟩⟩
def LInv (ocs : Int32) (oal : Int32) (olt : Int32) (ols : Int32) (trso : Int32) (trob : Nat → Int32) (trme : Nat → Int32) (run : Int32) (ruki : Nat → Int32) (ruta : Nat → Int32) (rupr : Nat → Int32) (runu : Nat → Int32) (chn : Int32) (chpu : Nat → Int32) (chco : Nat → Int32) (chwe : Nat → Int32) (fon : Int32) (fose : Nat → Int32) (sbct : Int32) (sbn : Nat) (sbb : Nat → Int32) (m_rules : Int32) (m_changes : Int32) (m_mostTries : Int32) (m_tried : Int32) (m_settled : Int32) (m_found : Int32) (m_isCovered : Int32) (m_covered : Int32) (m_toldMany : Int32) (m_there : Nat → Int32) (m_kinds : Nat → Int32) (m_targets : Nat → Int32) (m_predicates : Nat → Int32) (m_numbers : Nat → Int32) (m_puts : Nat → Int32) (m_codes : Nat → Int32) (m_weights : Nat → Int32) (m_sets : Nat → Int32) (m_told : Nat → Int32) : Prop :=
  (∃ th, TR2 trso trob trme m_there th) ∧ (∃ K T P N n, RU2 run ruki ruta rupr runu m_rules m_kinds m_targets m_predicates m_numbers K T P N n) ∧ (∃ U C V cn, CH2 chn chpu chco chwe m_changes m_puts m_codes m_weights U C V cn ∧ ∃ k, FO2 fon fose m_found m_sets cn k) ∧ (∃ A, AL2 oal m_mostTries A) ∧ LT2 olt ols m_tried m_settled ∧ CO2 ocs m_isCovered m_covered ∧ TX2 sbct sbn sbb m_toldMany m_told
theorem isO_0 {n c : Nat} : isO (fun _ => false) n c = false := by
  cases h : isO (fun _ => false) n c with
  | false => rfl
  | true => exact absurd (isO_t.mp h (fun _ => False) (fun t _ q => by cases q) (fun a b _ _ q _ => q)) (fun q => q)
theorem law_exit {L k : Nat} (hL : L ≤ 3072) (hk : 6 * k ≤ 3072) : nI L - 6 < nI (6 * k) ↔ L < 6 * k + 6 := by
  rw [Int32.lt_iff_toInt_lt, nn6, pk_sub_toInt (by omega) (by omega), nI_toInt (by omega)]
  omega
set_option maxHeartbeats 4000000 in
set_option maxRecDepth 20000 in
theorem lawLoop {L : Nat} {xs : Nat → Int32} (hL : L ≤ 3072) : ∀ (d : Nat) {k fu : Nat} {ocs oal olt ols trso : Int32} {trob trme trwi : Nat → Int32} {tiso : Int32} {tiob time : Nat → Int32} {run : Int32} {ruki ruta rupr runu : Nat → Int32} {chn : Int32} {chpu chco chwe : Nat → Int32} {fon : Int32} {fose fosu : Nat → Int32} {sbml sbct : Int32} {sbn : Nat} {sbb : Nat → Int32} {m_rules m_changes m_mostTries m_tried m_settled m_found m_isCovered m_covered m_toldMany : Int32} {m_there m_now m_kinds m_targets m_predicates m_numbers m_puts m_codes m_weights m_sets m_picks m_classes m_steps m_told : Nat → Int32} {kc ks : Nat}, L < 6 * (k + d) + 6 → d < fu → 6 * k ≤ 3072 → kc ≤ 38 + 8 * k → ks ≤ 2672 + 2000 * k → LInv ocs oal olt ols trso trob trme run ruki ruta rupr runu chn chpu chco chwe fon fose sbct sbn sbb m_rules m_changes m_mostTries m_tried m_settled m_found m_isCovered m_covered m_toldMany m_there m_kinds m_targets m_predicates m_numbers m_puts m_codes m_weights m_sets m_told → mL_law_L18 0 L xs mL_law_A18 fu (nI (6 * k)) ocs oal olt ols trso trob trme trwi tiso tiob time run ruki ruta rupr runu chn chpu chco chwe fon fose fosu sbml sbct sbn sbb m_rules m_changes m_mostTries m_tried m_settled m_found m_isCovered m_covered m_toldMany m_there m_now m_kinds m_targets m_predicates m_numbers m_puts m_codes m_weights m_sets m_picks m_classes m_steps m_told kc ks = some 1 := by
  intro d
  induction d with
  | zero =>
    intro k fu ocs oal olt ols trso trob trme trwi tiso tiob time run ruki ruta rupr runu chn chpu chco chwe fon fose fosu sbml sbct sbn sbb m_rules m_changes m_mostTries m_tried m_settled m_found m_isCovered m_covered m_toldMany m_there m_now m_kinds m_targets m_predicates m_numbers m_puts m_codes m_weights m_sets m_picks m_classes m_steps m_told kc ks hd hfu hk hkc hks hI
    obtain ⟨fu, rfl⟩ : ∃ q, fu = q + 1 := ⟨fu - 1, by omega⟩
    show mL_law_B18 0 L xs mL_law_A18 (mL_law_L18 0 L xs mL_law_A18 fu) (nI (6 * k)) ocs oal olt ols trso trob trme trwi tiso tiob time run ruki ruta rupr runu chn chpu chco chwe fon fose fosu sbml sbct sbn sbb m_rules m_changes m_mostTries m_tried m_settled m_found m_isCovered m_covered m_toldMany m_there m_now m_kinds m_targets m_predicates m_numbers m_puts m_codes m_weights m_sets m_picks m_classes m_steps m_told kc ks = some 1
    unfold mL_law_B18
    refine ite_go (fun _ => ?_) (fun e => absurd ((law_exit hL hk).mpr (by omega)) e)
    exact bd0_go (bud_v (by omega) (by omega)) rfl
  | succ d ih =>
    intro k fu ocs oal olt ols trso trob trme trwi tiso tiob time run ruki ruta rupr runu chn chpu chco chwe fon fose fosu sbml sbct sbn sbb m_rules m_changes m_mostTries m_tried m_settled m_found m_isCovered m_covered m_toldMany m_there m_now m_kinds m_targets m_predicates m_numbers m_puts m_codes m_weights m_sets m_picks m_classes m_steps m_told kc ks hd hfu hk hkc hks hI
    obtain ⟨fu, rfl⟩ : ∃ q, fu = q + 1 := ⟨fu - 1, by omega⟩
    show mL_law_B18 0 L xs mL_law_A18 (mL_law_L18 0 L xs mL_law_A18 fu) (nI (6 * k)) ocs oal olt ols trso trob trme trwi tiso tiob time run ruki ruta rupr runu chn chpu chco chwe fon fose fosu sbml sbct sbn sbb m_rules m_changes m_mostTries m_tried m_settled m_found m_isCovered m_covered m_toldMany m_there m_now m_kinds m_targets m_predicates m_numbers m_puts m_codes m_weights m_sets m_picks m_classes m_steps m_told kc ks = some 1
    have hI0 := hI
    unfold mL_law_B18
    have hb : bud 600000 7302250 kc ks = some () := bud_v (by omega) (by omega)
    refine ite_go (fun _ => bd0_go hb rfl) (fun e => ?_)
    have hkL : 6 * k + 6 ≤ L := by
      rcases Nat.lt_or_ge L (6 * k + 6) with q | q
      · exact absurd ((law_exit hL hk).mpr q) e
      · exact q
    have r0 : rd xs L (nI (6 * k)) = some (xs (6 * k)) := rdN (by omega) (by omega)
    have r1 : rd xs L (nI (6 * k) + 1) = some (xs (6 * k + 1)) := by rw [nn1, nI_add]; exact rdN (by omega) (by omega)
    have r2 : rd xs L (nI (6 * k) + 2) = some (xs (6 * k + 2)) := by rw [nn2, nI_add]; exact rdN (by omega) (by omega)
    have r3 : rd xs L (nI (6 * k) + 3) = some (xs (6 * k + 3)) := by rw [nn3, nI_add]; exact rdN (by omega) (by omega)
    have r4 : rd xs L (nI (6 * k) + 4) = some (xs (6 * k + 4)) := by rw [nn4, nI_add]; exact rdN (by omega) (by omega)
    have r5 : rd xs L (nI (6 * k) + 5) = some (xs (6 * k + 5)) := by rw [nn5, nI_add]; exact rdN (by omega) (by omega)
    have i6 : some (nI (6 * k) + 6) = some (nI (6 * (k + 1))) := by rw [nn6, nI_add]; rfl
    refine bd1_go r0 ?_
    refine bd1_go rfl ?_
    obtain ⟨⟨th, hT⟩, ⟨K, T, P, N, n, hR⟩, ⟨U, C, V, cn, hC, kf, hF⟩, ⟨A, hA⟩, hLT, hCo, hX⟩ := hI
    refine ite_go (fun _ => ?_) (fun _ => ?_)
    · obtain ⟨q, so', ob', me', there', e1, e2, th', hT'⟩ := p_triple hT (xs (6 * k + 1)) (xs (6 * k + 2)) (xs (6 * k + 3))
      refine bd1_go r1 ?_
      refine bd1_go r2 ?_
      refine bd1_go r3 ?_
      refine bd4_go e1 ?_
      refine bd0_go hb ?_
      refine bd1_go r1 ?_
      refine bd1_go r2 ?_
      refine bd1_go r3 ?_
      refine bd2_go e2 ?_
      refine bd0_go hb ?_
      refine ite_go (fun _ => ?_) (fun e => absurd rfl e)
      refine bd1_go i6 ?_
      exact ih (k := k + 1) (fu := fu) (by omega) (by omega) (by omega) (by omega) (by omega) ⟨⟨th', hT'⟩, ⟨K, T, P, N, n, hR⟩, ⟨U, C, V, cn, hC, kf, hF⟩, ⟨A, hA⟩, hLT, hCo, hX⟩
    refine ite_go (fun _ => ?_) (fun _ => ?_)
    · obtain ⟨q, so', ob', me', there', e1, e2, th', hT'⟩ := p_drop hT (xs (6 * k + 1)) (xs (6 * k + 2)) (xs (6 * k + 3))
      refine bd1_go r1 ?_
      refine bd1_go r2 ?_
      refine bd1_go r3 ?_
      refine bd4_go e1 ?_
      refine bd0_go hb ?_
      refine bd1_go r1 ?_
      refine bd1_go r2 ?_
      refine bd1_go r3 ?_
      refine bd2_go e2 ?_
      refine bd0_go hb ?_
      refine ite_go (fun _ => ?_) (fun e => absurd rfl e)
      refine bd1_go i6 ?_
      exact ih (k := k + 1) (fu := fu) (by omega) (by omega) (by omega) (by omega) (by omega) ⟨⟨th', hT'⟩, ⟨K, T, P, N, n, hR⟩, ⟨U, C, V, cn, hC, kf, hF⟩, ⟨A, hA⟩, hLT, hCo, hX⟩
    refine ite_go (fun _ => ?_) (fun _ => ?_)
    · obtain ⟨q, run1, ki1, ta1, pr1, nu1, rules1, ki2, ta2, pr2, nu2, e1, e2, K', T', P', N', n', hR'⟩ := p_rule hR (xs (6 * k + 1)) (xs (6 * k + 2)) (xs (6 * k + 3)) (xs (6 * k + 4))
      refine bd1_go r1 ?_
      refine bd1_go r2 ?_
      refine bd1_go r3 ?_
      refine bd1_go r4 ?_
      refine bd6_go e1 ?_
      refine bd0_go hb ?_
      refine bd1_go r1 ?_
      refine bd1_go r2 ?_
      refine bd1_go r3 ?_
      refine bd1_go r4 ?_
      refine bd6_go e2 ?_
      refine bd0_go hb ?_
      refine ite_go (fun _ => ?_) (fun e => absurd rfl e)
      refine bd1_go i6 ?_
      exact ih (k := k + 1) (fu := fu) (by omega) (by omega) (by omega) (by omega) (by omega) ⟨⟨th, hT⟩, ⟨K', T', P', N', n', hR'⟩, ⟨U, C, V, cn, hC, kf, hF⟩, ⟨A, hA⟩, hLT, hCo, hX⟩
    refine ite_go (fun _ => ?_) (fun _ => ?_)
    · obtain ⟨q, now', cl', e1, e2⟩ := p_results (now := m_now) (cl := m_classes) hT hR hC
      refine bd1_go e1 ?_
      refine bd0_go hb ?_
      refine bd3_go e2 ?_
      refine bd0_go hb ?_
      refine ite_go (fun _ => ?_) (fun e => absurd rfl e)
      refine bd1_go i6 ?_
      exact ih (k := k + 1) (fu := fu) (by omega) (by omega) (by omega) (by omega) (by omega) hI0
    refine ite_go (fun _ => ?_) (fun _ => ?_)
    · obtain ⟨q, now', cl', e1, e2⟩ := p_result (now := m_now) (cl := m_classes) (tob := tiob) (tme := time) hT hR hC (xs (6 * k + 1))
      refine bd1_go r1 ?_
      refine bd1_go e1 ?_
      refine bd0_go hb ?_
      refine bd1_go r1 ?_
      refine bd3_go e2 ?_
      refine bd0_go hb ?_
      refine ite_go (fun _ => ?_) (fun e => absurd rfl e)
      refine bd1_go i6 ?_
      exact ih (k := k + 1) (fu := fu) (by omega) (by omega) (by omega) (by omega) (by omega) hI0
    refine ite_go (fun _ => ?_) (fun _ => ?_)
    · obtain ⟨q, now', cl', e1, e2⟩ := p_isOf (now := m_now) (cl := m_classes) hT hC (xs (6 * k + 1)) (xs (6 * k + 2))
      refine bd1_go r1 ?_
      refine bd1_go r2 ?_
      refine bd1_go e1 ?_
      refine bd0_go hb ?_
      refine bd1_go r1 ?_
      refine bd1_go r2 ?_
      refine bd3_go e2 ?_
      refine bd0_go hb ?_
      refine ite_go (fun _ => ?_) (fun e => absurd rfl e)
      refine bd1_go i6 ?_
      exact ih (k := k + 1) (fu := fu) (by omega) (by omega) (by omega) (by omega) (by omega) hI0
    refine ite_go (fun _ => ?_) (fun _ => ?_)
    · obtain ⟨q, wi', steps', e1, e2⟩ := p_reason hT trwi m_steps (xs (6 * k + 1)) (xs (6 * k + 2)) (xs (6 * k + 3))
      refine bd1_go r1 ?_
      refine bd1_go r2 ?_
      refine bd1_go r3 ?_
      refine bd2_go e1 ?_
      refine bd0_go hb ?_
      refine bd1_go r1 ?_
      refine bd1_go r2 ?_
      refine bd1_go r3 ?_
      refine bd2_go e2 ?_
      refine bd0_go hb ?_
      refine ite_go (fun _ => ?_) (fun e => absurd rfl e)
      refine bd1_go i6 ?_
      exact ih (k := k + 1) (fu := fu) (by omega) (by omega) (by omega) (by omega) (by omega) hI0
    refine ite_go (fun _ => ?_) (fun _ => ?_)
    · refine bd1_go r1 ?_
      have hch : ∀ u : Bool, (u = true ↔ ¬ xs (6 * k + 1) = 0) → mL_law_J401 L xs (nI (6 * k)) ocs oal olt ols trso trob trme trwi tiso tiob time run ruki ruta rupr runu chn chpu chco chwe fon fose fosu sbml sbct sbn sbb m_rules m_changes m_mostTries m_tried m_settled m_found m_isCovered m_covered m_toldMany m_there m_now m_kinds m_targets m_predicates m_numbers m_puts m_codes m_weights m_sets m_picks m_classes m_steps m_told kc ks (mL_law_L18 0 L xs mL_law_A18 fu) (bI u) = some 1 := by
        intro u hu
        obtain ⟨q, chn1, pu1, co1, we1, changes1, pu2, co2, we2, e1, e2, U', C', V', cn', hC', hcn'⟩ := p_change hC u (xs (6 * k + 2)) (xs (6 * k + 3)) (xs (6 * k + 4)) (xs (6 * k + 5))
        have hJ : mL_law_J438 L xs (nI (6 * k)) ocs oal olt ols trso trob trme trwi tiso tiob time run ruki ruta rupr runu fon fose fosu sbml sbct sbn sbb m_rules m_changes m_mostTries m_tried m_settled m_found m_isCovered m_covered m_toldMany m_there m_now m_kinds m_targets m_predicates m_numbers m_puts m_codes m_weights m_sets m_picks m_classes m_steps m_told kc ks (mL_law_L18 0 L xs mL_law_A18 fu) q chn1 pu1 co1 we1 (bI u) = some 1 := by
          unfold mL_law_J438
          refine bd1_go r2 ?_
          refine bd1_go r3 ?_
          refine bd1_go r4 ?_
          refine bd1_go r5 ?_
          refine bd5_go e2 ?_
          refine bd0_go hb ?_
          refine ite_go (fun _ => ?_) (fun e => absurd rfl e)
          refine bd1_go i6 ?_
          exact ih (k := k + 1) (fu := fu) (by omega) (by omega) (by omega) (by omega) (by omega) ⟨⟨th, hT⟩, ⟨K, T, P, N, n, hR⟩, ⟨U', C', V', cn', hC', kf, FO2_up hF hcn'⟩, ⟨A, hA⟩, hLT, hCo, hX⟩
        unfold mL_law_J401
        refine bd1_go r2 ?_
        refine bd1_go r3 ?_
        refine bd1_go r4 ?_
        refine bd1_go r5 ?_
        refine bd5_go e1 ?_
        refine bd0_go hb ?_
        refine bd1_go r1 ?_
        cases u with
        | false => exact ite_go (fun _ => hJ) (fun e => absurd (hu.mpr e) (by decide))
        | true => exact ite_go (fun e => absurd e (hu.mp rfl)) (fun _ => hJ)
      refine ite_go (fun e => ?_) (fun e => ?_)
      · exact hch false ⟨fun q => absurd q (by decide), fun q => absurd e q⟩
      · exact hch true ⟨fun _ => e, fun _ => rfl⟩
    refine ite_go (fun _ => ?_) (fun _ => ?_)
    · obtain ⟨q, chn1, pu1, co1, we1, changes1, now1, pu2, co2, we2, cl1, e1, e2, U', C', V', cn', hC', hcn'⟩ := p_suggest (now := m_now) (cl := m_classes) hT hR hC (xs (6 * k + 1)) (xs (6 * k + 2))
      refine bd1_go r1 ?_
      refine bd1_go r2 ?_
      refine bd5_go e1 ?_
      refine bd0_go hb ?_
      refine bd1_go r1 ?_
      refine bd1_go r2 ?_
      refine bd7_go e2 ?_
      refine bd0_go hb ?_
      refine ite_go (fun _ => ?_) (fun e => absurd rfl e)
      refine bd1_go i6 ?_
      exact ih (k := k + 1) (fu := fu) (by omega) (by omega) (by omega) (by omega) (by omega) ⟨⟨th, hT⟩, ⟨K, T, P, N, n, hR⟩, ⟨U', C', V', cn', hC', kf, FO2_up hF hcn'⟩, ⟨A, hA⟩, hLT, hCo, hX⟩
    refine ite_go (fun _ => ?_) (fun _ => ?_)
    · obtain ⟨q, e1, e2, hC', hF', hO'⟩ := p_clear (ocs := ocs) (ic := m_isCovered) (cv := m_covered) hC hF
      refine bd4_go e1 ?_
      refine bd0_go hb ?_
      refine bd4_go e2 ?_
      refine bd0_go hb ?_
      refine ite_go (fun _ => ?_) (fun e => absurd rfl e)
      refine bd1_go i6 ?_
      exact ih (k := k + 1) (fu := fu) (by omega) (by omega) (by omega) (by omega) (by omega) ⟨⟨th, hT⟩, ⟨K, T, P, N, n, hR⟩, ⟨U, C, V, 0, hC', 0, hF'⟩, ⟨A, hA⟩, hLT, hO', hX⟩
    refine ite_go (fun _ => ?_) (fun _ => ?_)
    · obtain ⟨q, oal', mt', e1, e2, A', hA'⟩ := p_tries hA (xs (6 * k + 1))
      refine bd1_go r1 ?_
      refine bd2_go e1 ?_
      refine bd0_go hb ?_
      refine bd1_go r1 ?_
      refine bd2_go e2 ?_
      refine bd0_go hb ?_
      refine ite_go (fun _ => ?_) (fun e => absurd rfl e)
      refine bd1_go i6 ?_
      exact ih (k := k + 1) (fu := fu) (by omega) (by omega) (by omega) (by omega) (by omega) ⟨⟨th, hT⟩, ⟨K, T, P, N, n, hR⟩, ⟨U, C, V, cn, hC, kf, hF⟩, ⟨A', hA'⟩, hLT, hCo, hX⟩
    refine ite_go (fun _ => ?_) (fun _ => ?_)
    · obtain ⟨q, olt', ols', tso', tob', tme', fon', se', su', tried', settled', found', now', sets', picks', cl', e1, e2, hL', k', hF'⟩ := p_find hT hR hC hA hF hLT tiso tiob time fosu m_now m_picks m_classes (xs (6 * k + 1)) (xs (6 * k + 2)) (xs (6 * k + 3))
      refine bd1_go r1 ?_
      refine bd1_go r2 ?_
      refine bd1_go r3 ?_
      refine bd9_go e1 ?_
      refine bd0_go hb ?_
      refine bd1_go r1 ?_
      refine bd1_go r2 ?_
      refine bd1_go r3 ?_
      refine bd8_go e2 ?_
      refine bd0_go hb ?_
      refine ite_go (fun _ => ?_) (fun e => absurd rfl e)
      refine bd1_go i6 ?_
      exact ih (k := k + 1) (fu := fu) (by omega) (by omega) (by omega) (by omega) (by omega) ⟨⟨th, hT⟩, ⟨K, T, P, N, n, hR⟩, ⟨U, C, V, cn, hC, k', hF'⟩, ⟨A, hA⟩, hL', hCo, hX⟩
    refine ite_go (fun _ => ?_) (fun _ => ?_)
    · obtain ⟨q, e1, e2⟩ := p_settled hLT
      refine bd1_go e1 ?_
      refine bd0_go hb ?_
      refine bd1_go e2 ?_
      refine bd0_go hb ?_
      refine ite_go (fun _ => ?_) (fun e => absurd rfl e)
      refine bd1_go i6 ?_
      exact ih (k := k + 1) (fu := fu) (by omega) (by omega) (by omega) (by omega) (by omega) hI0
    refine ite_go (fun _ => ?_) (fun _ => ?_)
    · obtain ⟨q, e1, e2⟩ := p_tried hLT
      refine bd1_go e1 ?_
      refine bd0_go hb ?_
      refine bd1_go e2 ?_
      refine bd0_go hb ?_
      refine ite_go (fun _ => ?_) (fun e => absurd rfl e)
      refine bd1_go i6 ?_
      exact ih (k := k + 1) (fu := fu) (by omega) (by omega) (by omega) (by omega) (by omega) hI0
    refine ite_go (fun _ => ?_) (fun _ => ?_)
    · obtain ⟨q, e1, e2⟩ := p_set hF (xs (6 * k + 1)) (xs (6 * k + 2))
      refine bd1_go r1 ?_
      refine bd1_go r2 ?_
      refine bd1_go e1 ?_
      refine bd0_go hb ?_
      refine bd1_go r1 ?_
      refine bd1_go r2 ?_
      refine bd1_go e2 ?_
      refine bd0_go hb ?_
      refine ite_go (fun _ => ?_) (fun e => absurd rfl e)
      refine bd1_go i6 ?_
      exact ih (k := k + 1) (fu := fu) (by omega) (by omega) (by omega) (by omega) (by omega) hI0
    refine ite_go (fun _ => ?_) (fun _ => ?_)
    · obtain ⟨q, e1, e2⟩ := p_weight hF hC (xs (6 * k + 1))
      refine bd1_go r1 ?_
      refine bd1_go e1 ?_
      refine bd0_go hb ?_
      refine bd1_go r1 ?_
      refine bd1_go e2 ?_
      refine bd0_go hb ?_
      refine ite_go (fun _ => ?_) (fun e => absurd rfl e)
      refine bd1_go i6 ?_
      exact ih (k := k + 1) (fu := fu) (by omega) (by omega) (by omega) (by omega) (by omega) hI0
    refine ite_go (fun _ => ?_) (fun _ => ?_)
    · obtain ⟨q, now', cl', tso', tob', tme', e1, e2⟩ := p_breaks (now := m_now) (cl := m_classes) (tso := tiso) (tob := tiob) (tme := time) hT hR hC hF (xs (6 * k + 1)) (xs (6 * k + 2))
      refine bd1_go r1 ?_
      refine bd1_go r2 ?_
      refine bd4_go e1 ?_
      refine bd0_go hb ?_
      refine bd1_go r1 ?_
      refine bd1_go r2 ?_
      refine bd3_go e2 ?_
      refine bd0_go hb ?_
      refine ite_go (fun _ => ?_) (fun e => absurd rfl e)
      refine bd1_go i6 ?_
      exact ih (k := k + 1) (fu := fu) (by omega) (by omega) (by omega) (by omega) (by omega) hI0
    refine ite_go (fun _ => ?_) (fun _ => ?_)
    · obtain ⟨q, so', ob', me', fon', found', there', now', cl', e1, e2, ⟨th', hT'⟩, k', hF'⟩ := p_apply (now := m_now) (cl := m_classes) hT hR hC hF (xs (6 * k + 1))
      refine bd1_go r1 ?_
      refine bd5_go e1 ?_
      refine bd0_go hb ?_
      refine bd1_go r1 ?_
      refine bd5_go e2 ?_
      refine bd0_go hb ?_
      refine ite_go (fun _ => ?_) (fun e => absurd rfl e)
      refine bd1_go i6 ?_
      exact ih (k := k + 1) (fu := fu) (by omega) (by omega) (by omega) (by omega) (by omega) ⟨⟨th', hT'⟩, ⟨K, T, P, N, n, hR⟩, ⟨U, C, V, cn, hC, k', hF'⟩, ⟨A, hA⟩, hLT, hCo, hX⟩
    refine ite_go (fun _ => ?_) (fun _ => ?_)
    · obtain ⟨q, ocs', olt', ols', tso', tob', tme', tried', settled', ic', cv', now', picks', cl', e1, e2, hL', hO'⟩ := p_cover hT hR hC hA hLT hCo tiso tiob time m_now m_picks m_classes (xs (6 * k + 1))
      refine bd1_go r1 ?_
      refine bd7_go e1 ?_
      refine bd0_go hb ?_
      refine bd1_go r1 ?_
      refine bd8_go e2 ?_
      refine bd0_go hb ?_
      refine ite_go (fun _ => ?_) (fun e => absurd rfl e)
      refine bd1_go i6 ?_
      exact ih (k := k + 1) (fu := fu) (by omega) (by omega) (by omega) (by omega) (by omega) ⟨⟨th, hT⟩, ⟨K, T, P, N, n, hR⟩, ⟨U, C, V, cn, hC, kf, hF⟩, ⟨A, hA⟩, hL', hO', hX⟩
    refine ite_go (fun _ => ?_) (fun _ => ?_)
    · obtain ⟨q, e1, e2⟩ := p_covered hCo (xs (6 * k + 1))
      refine bd1_go r1 ?_
      refine bd1_go e1 ?_
      refine bd0_go hb ?_
      refine bd1_go r1 ?_
      refine bd1_go e2 ?_
      refine bd0_go hb ?_
      refine ite_go (fun _ => ?_) (fun e => absurd rfl e)
      refine bd1_go i6 ?_
      exact ih (k := k + 1) (fu := fu) (by omega) (by omega) (by omega) (by omega) (by omega) hI0
    refine ite_go (fun _ => ?_) (fun _ => ?_)
    · obtain ⟨q, sml', ct', sn', sb', tm', told', e1, e2, hX'⟩ := p_sentence hC hF hX sbml (xs (6 * k + 1))
      refine bd1_go r1 ?_
      refine bd5_go e1 ?_
      refine bd1_go rfl ?_
      refine bd1_go rfl ?_
      refine bd0_go (bud_v (by omega) (by omega)) ?_
      refine bd1_go r1 ?_
      refine bd3_go e2 ?_
      refine bd0_go (bud_v (by omega) (by omega)) ?_
      refine ite_go (fun _ => ?_) (fun e => absurd rfl e)
      refine bd1_go i6 ?_
      exact ih (k := k + 1) (fu := fu) (by omega) (by omega) (by omega) (by omega) (by omega) ⟨⟨th, hT⟩, ⟨K, T, P, N, n, hR⟩, ⟨U, C, V, cn, hC, kf, hF⟩, ⟨A, hA⟩, hLT, hCo, hX'⟩
    refine ite_go (fun _ => ?_) (fun _ => ?_)
    · obtain ⟨q, e1, e2⟩ := p_letter hX (xs (6 * k + 1))
      refine bd1_go r1 ?_
      refine bd1_go e1 ?_
      refine bd0_go hb ?_
      refine bd1_go r1 ?_
      refine bd1_go e2 ?_
      refine bd0_go hb ?_
      refine ite_go (fun _ => ?_) (fun e => absurd rfl e)
      refine bd1_go i6 ?_
      exact ih (k := k + 1) (fu := fu) (by omega) (by omega) (by omega) (by omega) (by omega) hI0
    refine bd1_go i6 ?_
    exact ih (k := k + 1) (fu := fu) (by omega) (by omega) (by omega) (by omega) (by omega) hI0
theorem law_pure : ∀ (L : Nat) (xs : Nat → Int32), L ≤ 3072 → lawM L xs = some 1 := by
  intro L xs hL
  unfold lawM mL_law
  refine lawLoop hL 512 (k := 0) (fu := 600) (by omega) (by omega) (by omega) (by omega) (by omega) ⟨⟨fun _ => false, rfl, fun k _ => ⟨sm_0, fun o _ => b_0 o⟩, fun c _ => ⟨sm_0, fun n _ => by rw [b_0, isO_0]⟩, fun k _ => rfl⟩, ⟨fun _ => 0, fun _ => 0, fun _ => 0, fun _ => 0, 0, by omega, rfl, rfl, fun r h => absurd h (by omega), fun r h => absurd h (by omega)⟩, ⟨fun _ => false, fun _ => 0, fun _ => 0, 0, ⟨by omega, rfl, rfl, fun r h => absurd h (by omega), fun r h => absurd h (by omega)⟩, 0, FO2_0⟩, ⟨500, rfl, rfl, by omega, by omega⟩, ⟨rfl, rfl, false, rfl⟩, Or.inl ⟨rfl, rfl⟩, TX2_0⟩
