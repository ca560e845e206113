/-! own rows: suggest, whole -/
theorem bd7v {A B C D E F H G : Type} {a : A} {b : B} {c : C} {d : D} {e : E} {g : F} {h : H} {f : A → B → C → D → E → F → H → Option G} : bd7 (some (a, b, c, d, e, g, h)) f = f a b c d e g h := rfl
theorem hasRule {n : Nat} (hn : n ≤ 10) (v : Int32) : (∃ r, r < n ∧ v = nI r ∧ mK2_has (nI n) v = some 1 ∧ mK5_in v 0 (nI n - 1) = some 1) ∨ (mK2_has (nI n) v = some 0 ∧ mK5_in v 0 (nI n - 1) = some 0) := by
  unfold mK2_has
  rcases inN v n (by omega) with ⟨j, hj, rfl, e⟩ | ⟨e, h⟩
  · left
    exact ⟨j, hj, rfl, by rw [if_neg (nI_pos (by omega)), if_neg (fun q => by rw [nI_leI (by omega) (by omega)] at q; omega)], e⟩
  · right
    refine ⟨?_, e⟩
    by_cases h0 : v < 0
    · rw [if_pos h0]
    · obtain ⟨j, hj, rfl⟩ := nI_of h0
      rw [if_neg h0, if_pos (by
        rw [nI_leI (by omega) hj]
        rcases Nat.lt_or_ge j n with q | q
        · exact absurd rfl (h j q)
        · exact q)]
theorem isPairR {n : Nat} (hn : n ≤ 10) (v1 v2 : Int32) : (∃ r x, r < n ∧ x < 12 ∧ v1 = nI r ∧ v2 = nI x ∧ mK2_has (nI n) v1 = some 1 ∧ mK0_isNode v2 = some 1 ∧ mK5_isPair (nI n) v1 v2 = some 1) ∨ (mK5_isPair (nI n) v1 v2 = some 0 ∧ (mK2_has (nI n) v1 = some 0 ∨ (mK2_has (nI n) v1 = some 1 ∧ mK0_isNode v2 = some 0))) := by
  unfold mK5_isPair
  rcases hasRule hn v1 with ⟨r, hr, e, e1, e2⟩ | ⟨e1, e2⟩
  · rcases isNodeC v2 with ⟨x, hx, e', e3, e4⟩ | ⟨e3, e4⟩
    · exact Or.inl ⟨r, x, hr, hx, e, e', e1, e3, by rw [e2, e4]; rfl⟩
    · exact Or.inr ⟨by rw [e2, e4]; rfl, Or.inr ⟨e1, e3⟩⟩
  · exact Or.inr ⟨by rw [e2]; rfl, Or.inl e1⟩
set_option maxHeartbeats 4000000 in
theorem p_suggest {so : Int32} {ob me there now cl : Nat → Int32} {th : Nat → Bool} (h : TR2 so ob me there th) {run rules : Int32} {ki ta pr nu ki' ta' pr' nu' : Nat → Int32} {K T P N : Nat → Nat} {n : Nat} (hr : RU2 run ki ta pr nu rules ki' ta' pr' nu' K T P N n) {chn changes : Int32} {pu co we pu' co' we' : Nat → Int32} {U : Nat → Bool} {C V : Nat → Nat} {cn : Nat} (hc : CH2 chn pu co we changes pu' co' we' U C V cn) (v1 v2 : Int32) :
    ∃ r chn1 pu1 co1 we1 changes1 now1 pu2 co2 we2 cl1, mK0_suggest ob me run ki ta pr nu chn pu co we v1 v2 = some (r, chn1, pu1, co1, we1) ∧ mK5_suggest rules changes there now ki' ta' pr' nu' pu' co' we' cl v1 v2 = some (r, changes1, now1, pu2, co2, we2, cl1) ∧ CHs cn chn1 pu1 co1 we1 changes1 pu2 co2 we2 := by
  have hT := h
  have hc0 : CHs cn chn pu co we changes pu' co' we' := ⟨U, C, V, cn, hc, Nat.le_refl _⟩
  obtain ⟨rfl, h1, h2, h3⟩ := h
  obtain ⟨hn, rfl, rfl, r1, r2⟩ := hr
  obtain ⟨hcn, rfl, rfl, c1, c2⟩ := hc
  unfold mK0_suggest mK5_suggest
  rcases isPairR hn v1 v2 with ⟨r, x, hr, hx, rfl, rfl, e1, e2, e3⟩ | ⟨e3, e1⟩
  · obtain ⟨nw, e4, hb⟩ := beginT (now := now) h3 c2 hcn 0
    rw [thS_0 cn (by omega)] at hb
    obtain ⟨cl1, e5⟩ := isResR hb r2 hn cl hr hx
    have hr10 : r < 10 := by omega
    rw [e1, bd1v, if_neg (show ¬ (1 : Int32) = 0 by decide), e2, bd1v, if_neg (show ¬ (1 : Int32) = 0 by decide), failsC h1 h2 r1 hn hr hx, bd1v, ifbI, e3, bd1v, if_neg (show ¬ (1 : Int32) = 0 by decide), e4, bd1v, e5, bd2v, ifbI]
    cases hq : resB th K T P N r x with
    | false => exact ⟨-2, _, _, _, _, _, nw, _, _, _, cl1, rfl, rfl, hc0⟩
    | true =>
      obtain ⟨a1, a2, a3, a4, k6, t12, p6, -⟩ := r1 r hr
      obtain ⟨b1, b2, b3, b4, -⟩ := r2 r hr
      rw [if_pos rfl, rdN hr10 (by decide), bd1v, a2, show mK1_has ob (nI x) 0 (nI (T r)) = some (bI (bt (ob (6 * x + 0)) (T r))) from hasT hx (by decide) t12, bd1v, OBr_at h1 hx (by decide) t12, ifbI]
      rw [if_pos rfl, rdN hr10 (by decide), bd1v, b3, rdN hr10 (by decide), bd1v, b4, rdN hr10 (by decide), bd1v, b2, show mK5_codeOf (nI x) 0 (nI (T r)) = some (nI (72 * x + 12 * 0 + T r)) from codeT, bd1v, rdN (by omega) (by decide), bd1v, hb _ (by omega), ifbI]
      have main : ∀ chn1 pu1 co1 we1 changes1 pu2 co2 we2, CHs cn chn1 pu1 co1 we1 changes1 pu2 co2 we2 → ∃ r' chn3 pu3 co3 we3 changes3 now3 pu4 co4 we4 cl3, mK0_suggest_J81 ob me ki pr nu (nI cn) (nI r) (nI x) chn1 pu1 co1 we1 = some (r', chn3, pu3, co3, we3) ∧ mK5_suggest_J84 (nI cn) ki' (nI r) (nI x) nw cl1 (nI (P r)) (nI (N r)) changes1 pu2 co2 we2 = some (r', changes3, now3, pu4, co4, we4, cl3) ∧ CHs cn chn3 pu3 co3 we3 changes3 pu4 co4 we4 := by
        intro chn1 pu1 co1 we1 changes1 pu2 co2 we2 hs
        unfold mK0_suggest_J81 mK5_suggest_J84
        refine lpU (S := (Int32 × (Nat → Int32) × (Nat → Int32) × (Nat → Int32)) × (Int32 × (Nat → Int32) × (Nat → Int32) × (Nat → Int32) × (Nat → Int32)))
          (fun f i st => (mK0_suggest_L84 ob me ki pr nu (nI r) (nI x) (mK0_suggest_A84 (nI cn)) f (nI i) st.1.1 st.1.2.1 st.1.2.2.1 st.1.2.2.2, mK5_suggest_L87 ki' (nI r) (nI x) nw (nI (P r)) (nI (N r)) (mK5_suggest_A87 (nI cn) nw) f (nI i) st.2.1 st.2.2.1 st.2.2.2.1 st.2.2.2.2.1 st.2.2.2.2.2))
          (fun o => ∃ r' chn3 pu3 co3 we3 changes3 now3 pu4 co4 we4 cl3, o.1 = some (r', chn3, pu3, co3, we3) ∧ o.2 = some (r', changes3, now3, pu4, co4, we4, cl3) ∧ CHs cn chn3 pu3 co3 we3 changes3 pu4 co4 we4) 12
          (fun i st => CHs cn st.1.1 st.1.2.1 st.1.2.2.1 st.1.2.2.2 st.2.1 st.2.2.1 st.2.2.2.1 st.2.2.2.2.1) ?_ ?_ 5000 0 ((chn1, pu1, co1, we1), (changes1, pu2, co2, we2, cl1)) (by omega) (by omega) hs
        · rintro f ⟨⟨q1, q2, q3, q4⟩, q5, q6, q7, q8, q9⟩ hs
          dsimp only at hs ⊢
          have hs0 := hs
          obtain ⟨U', C', V', cn', ⟨z1, z2, z3, -⟩, -⟩ := hs
          refine ⟨q1 - nI cn, q1, q2, q3, q4, q5, nw, q6, q7, q8, q9, ?_, ?_, hs0⟩
          · show mK0_suggest_B84 ob me ki pr nu (nI r) (nI x) (mK0_suggest_A84 (nI cn)) _ (nI 12) q1 q2 q3 q4 = _
            unfold mK0_suggest_B84
            rw [if_pos ((le12 (by omega)).mpr (by omega))]
            rfl
          · show mK5_suggest_B87 ki' (nI r) (nI x) nw (nI (P r)) (nI (N r)) (mK5_suggest_A87 (nI cn) nw) _ (nI 12) q5 q6 q7 q8 q9 = _
            unfold mK5_suggest_B87
            rw [if_pos ((le12 (by omega)).mpr (by omega)), z2, ← z3]
            rfl
        · rintro f i ⟨⟨q1, q2, q3, q4⟩, q5, q6, q7, q8, q9⟩ hi hs
          dsimp only at hs ⊢
          right
          obtain ⟨y1, y2, y3, y4, y5, y6, y7, y8, y9, g1, g2, g3⟩ := aboutP hT hb hn r1 r2 hr hx hi hs q9
          refine ⟨((y1, y2, y3, y4), (y5, y6, y7, y8, y9)), g3, ?_⟩
          refine Prod.ext ?_ ?_
          · show mK0_suggest_B84 ob me ki pr nu (nI r) (nI x) (mK0_suggest_A84 (nI cn)) (mK0_suggest_L84 ob me ki pr nu (nI r) (nI x) (mK0_suggest_A84 (nI cn)) f) (nI i) q1 q2 q3 q4 = _
            unfold mK0_suggest_B84
            rw [if_neg (fun q => by rw [le12 (by omega)] at q; omega), g1, bd4v, nIs, bd1v]
          · show mK5_suggest_B87 ki' (nI r) (nI x) nw (nI (P r)) (nI (N r)) (mK5_suggest_A87 (nI cn) nw) (mK5_suggest_L87 ki' (nI r) (nI x) nw (nI (P r)) (nI (N r)) (mK5_suggest_A87 (nI cn) nw) f) (nI i) q5 q6 q7 q8 q9 = _
            rw [g2]
      cases th (72 * x + 12 * 0 + T r) with
      | false => exact main _ _ _ _ _ _ _ _ hc0
      | true =>
        obtain ⟨y1, y2, y3, y4, y5, y6, y7, y8, g1, g2, g3⟩ := offerP hc0 false hx (show 0 < 6 by decide) t12
        rw [bI_f] at g1 g2
        rw [if_pos rfl, if_pos rfl, show (mK0_offer (nI cn) pu co we 0 (nI x) 0 (nI (T r))) = some (y1, y2, y3, y4) from g1, bd4v, bd1v, show mK5_codeOf (nI x) 0 (nI (T r)) = some (nI (72 * x + 12 * 0 + T r)) from codeT, bd1v, g2, bd4v]
        exact main _ _ _ _ _ _ _ _ g3
  · refine ⟨-1, _, _, _, _, _, now, _, _, _, cl, ?_, by rw [e3]; rfl, hc0⟩
    rcases e1 with e1 | ⟨e1, e2⟩
    · rw [e1]; rfl
    · rw [e1, e2]; rfl
