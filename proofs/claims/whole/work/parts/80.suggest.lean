/-! own rows: rule, change, suggest, clear -/
theorem RUr_add {ki ta pr nu : Nat → Int32} {K T P N : Nat → Nat} {n : Nat} (h : RUr ki ta pr nu K T P N n) {k t p a : Nat} (h1 : k < 6) (h2 : t < 12) (h3 : p < 6) (h4 : a ≤ 12) (h5 : 2 ≤ k → a < 12) (h6 : 4 ≤ k → a < 6) :
    RUr (upd ki n (nI k)) (upd ta n (nI t)) (upd pr n (nI p)) (upd nu n (nI a)) (fun r => if r = n then k else K r) (fun r => if r = n then t else T r) (fun r => if r = n then p else P r) (fun r => if r = n then a else N r) (n + 1) := by
  intro r hr
  by_cases e : r = n
  · subst e
    simp only [upd_s, if_true]
    exact ⟨trivial, trivial, trivial, trivial, h1, h2, h3, h4, h5, h6⟩
  · rw [upd_n e, upd_n e, upd_n e, upd_n e]
    simp only [if_neg e]
    exact h r (by omega)
theorem fitC (v1 v4 : Int32) : (∃ k a, k < 6 ∧ v1 = nI k ∧ v4 = nI a ∧ a ≤ 12 ∧ (2 ≤ k → a < 12) ∧ (4 ≤ k → a < 6) ∧ mK0_fitsKind v1 v4 = some 1 ∧ mK5_in v1 0 5 = some 1 ∧ ∃ s, (∀ rn ki ta pr nu v2 v3, mK5_rule rn ki ta pr nu v1 v2 v3 v4 = mK5_rule_J21 rn ki ta pr nu v1 v2 v3 v4 s) ∧ mK5_in v4 0 s = some 1)
    ∨ (mK0_fitsKind v1 v4 = some 0 ∧ ∃ s, (∀ rn ki ta pr nu v2 v3, mK5_rule rn ki ta pr nu v1 v2 v3 v4 = mK5_rule_J21 rn ki ta pr nu v1 v2 v3 v4 s) ∧ (mK5_in v1 0 5 = some 0 ∨ (mK5_in v1 0 5 = some 1 ∧ mK5_in v4 0 s = some 0))) := by
  have hs : ∃ s, (∀ rn ki ta pr nu v2 v3, mK5_rule rn ki ta pr nu v1 v2 v3 v4 = mK5_rule_J21 rn ki ta pr nu v1 v2 v3 v4 s) ∧ (2 ≤ v1 → 4 ≤ v1 → s = 5) ∧ (2 ≤ v1 → ¬ 4 ≤ v1 → s = 11) ∧ (¬ 2 ≤ v1 → s = 12) := by
    unfold mK5_rule
    by_cases h2 : 2 ≤ v1
    · by_cases h4 : 4 ≤ v1
      · exact ⟨5, fun _ _ _ _ _ _ _ => by rw [if_pos h2, if_pos h4], fun _ _ => rfl, fun _ q => absurd h4 q, fun q => absurd h2 q⟩
      · exact ⟨11, fun _ _ _ _ _ _ _ => by rw [if_pos h2, if_neg h4], fun _ q => absurd q h4, fun _ _ => rfl, fun q => absurd h2 q⟩
    · exact ⟨12, fun _ _ _ _ _ _ _ => by rw [if_neg h2], fun q => absurd q h2, fun q => absurd q h2, fun _ => rfl⟩
  obtain ⟨s, e, s1, s2, s3⟩ := hs
  have le12' : ∀ v : Int32, (∃ j, j ≤ 12 ∧ v = nI j ∧ (if v < 0 then (some 0 : Option Int32) else if 12 < v then some 0 else some 1) = some 1 ∧ mK5_in v 0 12 = some 1) ∨ ((if v < 0 then (some 0 : Option Int32) else if 12 < v then some 0 else some 1) = some 0 ∧ mK5_in v 0 12 = some 0) := by
    intro v
    have e : mK5_in v 0 12 = if v < 0 then (some 0 : Option Int32) else if 12 < v then some 0 else some 1 := rfl
    rcases inR v 12 (by decide) with ⟨j, h1, h2, h3⟩ | ⟨h1, h2⟩
    · exact Or.inl ⟨j, h1, h2, by rw [← e]; exact h3, h3⟩
    · exact Or.inr ⟨by rw [← e]; exact h1, h1⟩
  rcases inR v1 5 (by decide) with ⟨k, hk, rfl, e1⟩ | ⟨e1, hk⟩
  · have hk' : k = 0 ∨ k = 1 ∨ k = 2 ∨ k = 3 ∨ k = 4 ∨ k = 5 := by omega
    rcases hk' with rfl | rfl | rfl | rfl | rfl | rfl
    · obtain rfl := s3 (by decide)
      rcases le12' v4 with ⟨a, ha, rfl, q1, q2⟩ | ⟨q1, q2⟩
      · exact Or.inl ⟨0, a, by omega, rfl, rfl, ha, by omega, by omega, q1, e1, 12, e, q2⟩
      · exact Or.inr ⟨q1, 12, e, Or.inr ⟨e1, q2⟩⟩
    · obtain rfl := s3 (by decide)
      rcases le12' v4 with ⟨a, ha, rfl, q1, q2⟩ | ⟨q1, q2⟩
      · exact Or.inl ⟨1, a, by omega, rfl, rfl, ha, by omega, by omega, q1, e1, 12, e, q2⟩
      · exact Or.inr ⟨q1, 12, e, Or.inr ⟨e1, q2⟩⟩
    · obtain rfl := s2 (by decide) (by decide)
      rcases isNodeC v4 with ⟨a, ha, rfl, q1, q2⟩ | ⟨q1, q2⟩
      · exact Or.inl ⟨2, a, by omega, rfl, rfl, by omega, by omega, by omega, by show bd1 (mK0_isNode _) _ = _; rw [q1]; rfl, e1, 11, e, q2⟩
      · exact Or.inr ⟨by show bd1 (mK0_isNode _) _ = _; rw [q1]; rfl, 11, e, Or.inr ⟨e1, q2⟩⟩
    · obtain rfl := s2 (by decide) (by decide)
      rcases isNodeC v4 with ⟨a, ha, rfl, q1, q2⟩ | ⟨q1, q2⟩
      · exact Or.inl ⟨3, a, by omega, rfl, rfl, by omega, by omega, by omega, by show bd1 (mK0_isNode _) _ = _; rw [q1]; rfl, e1, 11, e, q2⟩
      · exact Or.inr ⟨by show bd1 (mK0_isNode _) _ = _; rw [q1]; rfl, 11, e, Or.inr ⟨e1, q2⟩⟩
    · obtain rfl := s1 (by decide) (by decide)
      rcases isPredC v4 with ⟨a, ha, rfl, q1, q2⟩ | ⟨q1, q2⟩
      · exact Or.inl ⟨4, a, by omega, rfl, rfl, by omega, by omega, by omega, by show bd1 (mK0_isPredicate _) _ = _; rw [q1]; rfl, e1, 5, e, q2⟩
      · exact Or.inr ⟨by show bd1 (mK0_isPredicate _) _ = _; rw [q1]; rfl, 5, e, Or.inr ⟨e1, q2⟩⟩
    · obtain rfl := s1 (by decide) (by decide)
      rcases isPredC v4 with ⟨a, ha, rfl, q1, q2⟩ | ⟨q1, q2⟩
      · exact Or.inl ⟨5, a, by omega, rfl, rfl, by omega, by omega, by omega, by show bd1 (mK0_isPredicate _) _ = _; rw [q1]; rfl, e1, 5, e, q2⟩
      · exact Or.inr ⟨by show bd1 (mK0_isPredicate _) _ = _; rw [q1]; rfl, 5, e, Or.inr ⟨e1, q2⟩⟩
  · right
    refine ⟨?_, s, e, Or.inl e1⟩
    unfold mK0_fitsKind
    rw [if_neg (show ¬ v1 = 0 from hk 0 (by omega)), if_neg (show ¬ v1 = 1 from hk 1 (by omega)), if_neg (show ¬ v1 = 2 from hk 2 (by omega)), if_neg (show ¬ v1 = 3 from hk 3 (by omega)), if_neg (show ¬ v1 = 4 from hk 4 (by omega)), if_neg (show ¬ v1 = 5 from hk 5 (by omega))]
set_option maxHeartbeats 1000000 in
theorem p_rule {run rules : Int32} {ki ta pr nu ki' ta' pr' nu' : Nat → Int32} {K T P N : Nat → Nat} {n : Nat} (hr : RU2 run ki ta pr nu rules ki' ta' pr' nu' K T P N n) (v1 v2 v3 v4 : Int32) :
    ∃ r run1 ki1 ta1 pr1 nu1 rules1 ki2 ta2 pr2 nu2, mK0_rule run ki ta pr nu v1 v2 v3 v4 = some (r, run1, ki1, ta1, pr1, nu1) ∧ mK5_rule rules ki' ta' pr' nu' v1 v2 v3 v4 = some (r, rules1, ki2, ta2, pr2, nu2) ∧ ∃ K T P N n, RU2 run1 ki1 ta1 pr1 nu1 rules1 ki2 ta2 pr2 nu2 K T P N n := by
  have hr0 := hr
  obtain ⟨hn, rfl, rfl, r1, r2⟩ := hr
  have bad : mK0_rule (nI n) ki ta pr nu v1 v2 v3 v4 = some (-1, nI n, ki, ta, pr, nu) → mK5_rule (nI n) ki' ta' pr' nu' v1 v2 v3 v4 = some (-1, nI n, ki', ta', pr', nu') → ∃ r run1 ki1 ta1 pr1 nu1 rules1 ki2 ta2 pr2 nu2, mK0_rule (nI n) ki ta pr nu v1 v2 v3 v4 = some (r, run1, ki1, ta1, pr1, nu1) ∧ mK5_rule (nI n) ki' ta' pr' nu' v1 v2 v3 v4 = some (r, rules1, ki2, ta2, pr2, nu2) ∧ ∃ K T P N n, RU2 run1 ki1 ta1 pr1 nu1 rules1 ki2 ta2 pr2 nu2 K T P N n := fun a b => ⟨-1, _, _, _, _, _, _, _, _, _, _, a, b, K, T, P, N, n, hr0⟩
  have hs : ∃ s, mK5_rule (nI n) ki' ta' pr' nu' v1 v2 v3 v4 = mK5_rule_J21 (nI n) ki' ta' pr' nu' v1 v2 v3 v4 s := by
    rcases fitC v1 v4 with ⟨k, a, _, _, _, _, _, _, _, _, s, es, _⟩ | ⟨_, s, es, _⟩ <;> exact ⟨s, es _ _ _ _ _ _ _⟩
  have i01 : mK5_in v1 0 5 = some 0 ∨ mK5_in v1 0 5 = some 1 := by
    rcases inR v1 5 (by decide) with ⟨_, _, _, q⟩ | ⟨q, _⟩
    · exact Or.inr q
    · exact Or.inl q
  rcases isNodeC v2 with ⟨t, ht, rfl, e1, e2⟩ | ⟨e1, e2⟩
  · rcases isPredC v3 with ⟨p, hp, rfl, e3, e4⟩ | ⟨e3, e4⟩
    · rcases fitC v1 v4 with ⟨k, a, hk, rfl, rfl, h1, h2, h3, f1, f2, s, es, f3⟩ | ⟨f1, s, es, f2⟩
      · rw [es]
        unfold mK0_rule mK5_rule_J21 mK2_add
        rw [e1, e2, e3, e4, f1, f2, f3]
        simp only [bd1v, if_neg (show ¬ (1 : Int32) = 0 by decide)]
        by_cases hn10 : n = 10
        · rw [if_neg (by rw [hn10]; decide), if_pos (by rw [hn10]; rfl), bd6v]
          exact ⟨_, _, _, _, _, _, _, _, _, _, _, rfl, rfl, K, T, P, N, n, hr0⟩
        · rw [if_pos (show nI n < 10 by rw [nn10, nI_ltI (by omega) (by omega)]; omega), if_neg (show ¬ nI n = 10 by rw [nn10, nI_eq (by omega) (by omega)]; exact hn10)]
          simp only [wrtN (show n < 10 by omega) (show 10 < 2 ^ 31 by decide), bd1v, bd6v, nIs]
          exact ⟨_, _, _, _, _, _, _, _, _, _, _, rfl, rfl, _, _, _, _, n + 1, by omega, rfl, rfl, RUr_add r1 hk ht hp h1 h2 h3, RUr_add r2 hk ht hp h1 h2 h3⟩
      · refine bad ?_ ?_
        · unfold mK0_rule
          rw [e1, e3, f1]; rfl
        · rw [es]
          unfold mK5_rule_J21
          rcases f2 with f2 | ⟨f2, f3⟩
          · rw [f2]; rfl
          · rw [f2, e2, e4, f3]; rfl
    · refine bad ?_ ?_
      · unfold mK0_rule
        rw [e1, e3]; rfl
      · obtain ⟨s, es⟩ := hs
        rw [es]
        unfold mK5_rule_J21
        rcases i01 with q | q <;> rw [q, e2, e4] <;> rfl
  · refine bad ?_ ?_
    · unfold mK0_rule
      rw [e1]; rfl
    · obtain ⟨s, es⟩ := hs
      rw [es]
      unfold mK5_rule_J21
      rcases i01 with q | q <;> rw [q, e2] <;> rfl
/-! changes -/
def hasCh (U : Nat → Bool) (C : Nat → Nat) (u : Bool) (k n : Nat) : Bool := anyB (fun c => (U c == u) && decide (C c = k)) n
theorem CHr_add {pu co we : Nat → Int32} {U : Nat → Bool} {C V : Nat → Nat} {n : Nat} (h : CHr pu co we U C V n) {u : Bool} {k w : Nat} (hk : k < 864) (h1 : 1 ≤ w) (h9 : w ≤ 9) :
    CHr (upd pu n (bI u)) (upd co n (nI k)) (upd we n (nI w)) (fun c => if c = n then u else U c) (fun c => if c = n then k else C c) (fun c => if c = n then w else V c) (n + 1) := by
  intro c hc
  by_cases e : c = n
  · subst e
    simp only [upd_s, if_true]
    exact ⟨trivial, trivial, trivial, hk, h1, h9⟩
  · rw [upd_n e, upd_n e, upd_n e]
    simp only [if_neg e]
    exact h c (by omega)
set_option maxHeartbeats 1000000 in
theorem addC {pu co we : Nat → Int32} {U : Nat → Bool} {C V : Nat → Nat} {n : Nat} (h : CHr pu co we U C V n) (hn : n ≤ 12) (u : Bool) {k : Nat} (hk : k < 864) (w : Int32) :
    mK3_add (nI n) pu co we (bI u) (nI k) w = some (if hasCh U C u k n = true then (-2, nI n, pu, co, we) else if n = 12 then (-3, nI n, pu, co, we) else (nI n, nI (n + 1), upd pu n (bI u), upd co n (nI k), upd we n w)) := by
  unfold mK3_add
  refine lpU (S := Unit) (fun f i _ => mK3_add_L3 (nI n) pu co we (bI u) (nI k) (mK3_add_A3 (nI n) pu co we (bI u) (nI k) w) f (nI i)) (fun o => o = some (if hasCh U C u k n = true then (-2, nI n, pu, co, we) else if n = 12 then (-3, nI n, pu, co, we) else (nI n, nI (n + 1), upd pu n (bI u), upd co n (nI k), upd we n w))) n (fun i _ => hasCh U C u k i = false) ?_ ?_ 5000 0 () (by omega) (by omega) rfl
  · rintro f - h0
    show mK3_add_B3 (nI n) pu co we (bI u) (nI k) (mK3_add_A3 (nI n) pu co we (bI u) (nI k) w) _ (nI n) = _
    unfold mK3_add_B3
    rw [if_pos (nI_le (Nat.le_refl n) (by omega)), h0, if_neg (by decide)]
    unfold mK3_add_A3
    by_cases e : n = 12
    · rw [if_pos e, if_neg (by rw [e]; decide)]
    · rw [if_neg e, if_pos (show nI n < 12 by rw [nn12, nI_ltI (by omega) (by omega)]; omega), nar_bI, wrtN (by omega) (by decide), bd1v, wrtN (by omega) (by decide), bd1v, wrtN (by omega) (by decide), bd1v, nIs, bd1v, nn1, nI_sub (by omega)]
      rfl
  · rintro f i - hi h0
    obtain ⟨q1, q2, -, q4, -, -⟩ := h i hi
    have hB : ∀ rc, mK3_add_B3 (nI n) pu co we (bI u) (nI k) (mK3_add_A3 (nI n) pu co we (bI u) (nI k) w) rc (nI i) = if ((U i == u) && decide (C i = k)) = true then some (-2, nI n, pu, co, we) else rc (nI (i + 1)) := by
      intro rc
      unfold mK3_add_B3
      rw [if_neg (fun w => by rw [nI_leI (by omega) (by omega)] at w; omega), rdN (by omega) (by decide), bd1v, q1]
      by_cases e : U i = u
      · rw [if_pos (by rw [e]), rdN (by omega) (by decide), bd1v, q2]
        by_cases e2 : C i = k
        · rw [if_pos (by rw [e2]), if_pos (by simp [e, e2])]
        · rw [if_neg (fun z => e2 ((nI_eq (by omega) (by omega)).mp z)), if_neg (by simp [e2]), nIs, bd1v]
      · rw [if_neg (fun z => e (bI_inj z)), if_neg (by simp [e]), nIs, bd1v]
    by_cases e : ((U i == u) && decide (C i = k)) = true
    · left
      show mK3_add_B3 (nI n) pu co we (bI u) (nI k) (mK3_add_A3 (nI n) pu co we (bI u) (nI k) w) _ (nI i) = _
      rw [hB, if_pos e, if_pos (show hasCh U C u k n = true from anyB_t.mpr ⟨i, hi, e⟩)]
    · right
      refine ⟨(), ?_, ?_⟩
      · show (hasCh U C u k i || _) = false
        rw [h0, Bool.false_or]; exact Bool.eq_false_iff.mpr e
      · show mK3_add_B3 (nI n) pu co we (bI u) (nI k) (mK3_add_A3 (nI n) pu co we (bI u) (nI k) w) _ (nI i) = _
        rw [hB, if_neg e]
set_option maxHeartbeats 1000000 in
theorem isThereR {pu co we : Nat → Int32} {U : Nat → Bool} {C V : Nat → Nat} {n : Nat} (h : CHr pu co we U C V n) (hn : n ≤ 12) (u : Bool) {k : Nat} (hk : k < 864) : mK5_isThere (nI n) pu co (bI u) (nI k) = some (bI (hasCh U C u k n)) := by
  unfold mK5_isThere
  refine lpU (S := Int32) (fun f i st => mK5_isThere_L5 (nI n) pu co (bI u) (nI k) mK5_isThere_A5 f st (nI i)) (fun o => o = some (bI (hasCh U C u k n))) n (fun i st => st = bI (hasCh U C u k i)) ?_ ?_ 5000 0 0 (by omega) (by omega) rfl
  · rintro f st rfl
    show mK5_isThere_B5 (nI n) pu co (bI u) (nI k) mK5_isThere_A5 _ _ (nI n) = _
    unfold mK5_isThere_B5
    rw [if_pos (nI_le (Nat.le_refl n) (by omega))]
    unfold mK5_isThere_A5
    rw [bz_bI, bd1v]
  · rintro f i st hi rfl
    right
    obtain ⟨q1, q2, -, q4, -, -⟩ := h i hi
    refine ⟨_, rfl, ?_⟩
    show mK5_isThere_B5 (nI n) pu co (bI u) (nI k) mK5_isThere_A5 (mK5_isThere_L5 (nI n) pu co (bI u) (nI k) mK5_isThere_A5 f) _ (nI i) = _
    unfold mK5_isThere_B5
    rw [if_neg (fun w => by rw [nI_leI (by omega) (by omega)] at w; omega), show hasCh U C u k (i + 1) = (hasCh U C u k i || ((U i == u) && decide (C i = k))) from rfl]
    cases hasCh U C u k i with
    | true => rw [if_neg (by decide), nIs, bd1v]; rfl
    | false =>
      rw [if_pos bI_f, rdN (by omega) (by decide), bd1v, q1]
      by_cases e : U i = u
      · rw [if_pos (by rw [e]), rdN (by omega) (by decide), bd1v, q2]
        by_cases e2 : C i = k
        · rw [if_pos (by rw [e2]), nIs, bd1v, decide_eq_true e2, e]; simp [bI]
        · rw [if_neg (fun z => e2 ((nI_eq (by omega) (by omega)).mp z)), nIs, bd1v, decide_eq_false e2]; simp [bI]
      · rw [if_neg (fun z => e (bI_inj z)), nIs, bd1v]; simp [bI, e]
theorem enterR {pu co we : Nat → Int32} {n : Nat} (hn : n < 12) (u : Bool) (k w : Int32) : mK5_enter (nI n) pu co we (bI u) k w = some (nI (n + 1), upd pu n (bI u), upd co n k, upd we n w) := by
  unfold mK5_enter
  rw [nar_bI, wrtN (by omega) (by decide), bd1v, wrtN (by omega) (by decide), bd1v, wrtN (by omega) (by decide), bd1v, nIs, bd1v]
set_option maxHeartbeats 1000000 in
theorem p_change {chn changes : Int32} {pu co we pu' co' we' : Nat → Int32} {U : Nat → Bool} {C V : Nat → Nat} {cn : Nat} (hc : CH2 chn pu co we changes pu' co' we' U C V cn) (u : Bool) (v2 v3 v4 v5 : Int32) :
    ∃ r chn1 pu1 co1 we1 changes1 pu2 co2 we2, mK0_change chn pu co we (bI u) v2 v3 v4 v5 = some (r, chn1, pu1, co1, we1) ∧ mK5_change changes pu' co' we' (bI u) v2 v3 v4 v5 = some (r, changes1, pu2, co2, we2) ∧ ∃ U C V cn', CH2 chn1 pu1 co1 we1 changes1 pu2 co2 we2 U C V cn' ∧ cn ≤ cn' := by
  have hc0 := hc
  obtain ⟨hn, rfl, rfl, c1, c2⟩ := hc
  have stay : ∀ r, mK0_change (nI cn) pu co we (bI u) v2 v3 v4 v5 = some (r, nI cn, pu, co, we) → mK5_change (nI cn) pu' co' we' (bI u) v2 v3 v4 v5 = some (r, nI cn, pu', co', we') → ∃ r chn1 pu1 co1 we1 changes1 pu2 co2 we2, mK0_change (nI cn) pu co we (bI u) v2 v3 v4 v5 = some (r, chn1, pu1, co1, we1) ∧ mK5_change (nI cn) pu' co' we' (bI u) v2 v3 v4 v5 = some (r, changes1, pu2, co2, we2) ∧ ∃ U C V cn', CH2 chn1 pu1 co1 we1 changes1 pu2 co2 we2 U C V cn' ∧ cn ≤ cn' := fun r a b => ⟨r, _, _, _, _, _, _, _, _, a, b, U, C, V, cn, hc0, Nat.le_refl _⟩
  rcases isTripC v2 v3 v4 with ⟨s, p, o, hs, hp, ho, rfl, rfl, rfl, e1, e2⟩ | ⟨e1, e2⟩
  · rcases in1 v5 9 (by decide) with ⟨w, h1, h2, rfl, e3, e4, e5⟩ | ⟨e3, e4⟩
    · have eC : mK0_change (nI cn) pu co we (bI u) (nI s) (nI p) (nI o) (nI w) = bd5 (mK3_add (nI cn) pu co we (bI u) (nI (72 * s + 12 * p + o)) (nI w)) fun x5 x6 x7 x8 x9 => some (x5, x6, x7, x8, x9) := by
        unfold mK0_change
        rw [e1, bd1v, if_neg (by decide), if_neg e4, if_pos (show nI w ≤ 9 from e5), codeC, bd1v]
      have eR : mK5_change (nI cn) pu' co' we' (bI u) (nI s) (nI p) (nI o) (nI w) = if hasCh U C u (72 * s + 12 * p + o) cn = true then some (-2, nI cn, pu', co', we') else if nI cn = 12 then some (-3, nI cn, pu', co', we') else bd4 (mK5_enter (nI cn) pu' co' we' (bI u) (nI (72 * s + 12 * p + o)) (nI w)) fun x11 x12 x13 x14 => some (x11 - 1, x11, x12, x13, x14) := by
        unfold mK5_change
        rw [e2, bd1v, if_neg (by decide), show mK5_in (nI w) 1 9 = some 1 from e3, bd1v, if_neg (by decide), codeT, bd1v, isThereR c2 hn u (by omega), bd1v, ifbI, bd1v]
      rw [addC c1 hn u (by omega)] at eC
      cases hh : hasCh U C u (72 * s + 12 * p + o) cn with
      | true =>
        rw [hh, if_pos rfl] at eC eR
        exact stay _ eC eR
      | false =>
        rw [hh, if_neg (by decide)] at eC eR
        by_cases h12 : cn = 12
        · rw [if_pos h12] at eC
          rw [if_pos (by rw [h12]; rfl)] at eR
          exact stay _ eC eR
        · rw [if_neg h12, bd5v] at eC
          rw [if_neg (show ¬ nI cn = 12 by rw [nn12, nI_eq (by omega) (by omega)]; exact h12), enterR (by omega), bd4v, nn1, nI_sub (by omega)] at eR
          exact ⟨_, _, _, _, _, _, _, _, _, eC, eR, _, _, _, cn + 1, ⟨by omega, rfl, rfl, CHr_add c1 (by omega) h1 h2, CHr_add c2 (by omega) h1 h2⟩, by omega⟩
    · refine stay (-1) ?_ ?_
      · unfold mK0_change
        rw [e1, bd1v, if_neg (by decide)]
        rcases e4 with e4 | ⟨e4, e5⟩
        · rw [if_pos e4]
        · rw [if_neg e4, if_neg (show ¬ v5 ≤ 9 from e5)]
      · unfold mK5_change
        rw [e2, bd1v, if_neg (by decide), show mK5_in v5 1 9 = some 0 from e3]
        rfl
  · refine stay (-1) ?_ ?_
    · unfold mK0_change
      rw [e1]; rfl
    · unfold mK5_change
      rw [e2]; rfl
theorem p_clear {chn changes fon found ocs ic cv : Int32} {pu co we pu' co' we' se sets : Nat → Int32} {U : Nat → Bool} {C V : Nat → Nat} {cn k : Nat} (hc : CH2 chn pu co we changes pu' co' we' U C V cn) (hf : FO2 fon se found sets cn k) :
    ∃ r, mK0_clear ocs chn fon = some (r, 0, 0, 0) ∧ mK5_clear changes found ic = some (r, 0, 0, 0) ∧ CH2 0 pu co we 0 pu' co' we' U C V 0 ∧ FO2 0 se 0 sets 0 0 ∧ CO2 0 0 cv := by
  obtain ⟨hn, rfl, rfl, c1, c2⟩ := hc
  refine ⟨nI cn, rfl, rfl, ⟨by omega, rfl, rfl, fun c h => absurd h (by omega), fun c h => absurd h (by omega)⟩, FO2_0, Or.inl ⟨rfl, rfl⟩⟩
