/-! own rows: suggest -/
def CHs (c0 : Nat) (chn : Int32) (pu co we : Nat → Int32) (changes : Int32) (pu' co' we' : Nat → Int32) : Prop := ∃ U C V cn, CH2 chn pu co we changes pu' co' we' U C V cn ∧ c0 ≤ cn
set_option maxHeartbeats 1000000 in
theorem offerP {chn changes : Int32} {pu co we pu' co' we' : Nat → Int32} {c0 : Nat} (h : CHs c0 chn pu co we changes pu' co' we') (u : Bool) {s p o : Nat} (hs : s < 12) (hp : p < 6) (ho : o < 12) :
    ∃ chn1 pu1 co1 we1 changes1 pu2 co2 we2, mK0_offer chn pu co we (bI u) (nI s) (nI p) (nI o) = some (chn1, pu1, co1, we1) ∧ mK5_offer changes pu' co' we' (bI u) (nI (72 * s + 12 * p + o)) = some (changes1, pu2, co2, we2) ∧ CHs c0 chn1 pu1 co1 we1 changes1 pu2 co2 we2 := by
  obtain ⟨U, C, V, cn, ⟨hn, rfl, rfl, c1, c2⟩, h0⟩ := h
  unfold mK0_offer mK5_offer
  rw [codeC, bd1v, addC c1 hn u (by omega), bd5]
  by_cases h12 : cn = 12
  · rw [if_pos (show (12 : Int32) ≤ nI cn by rw [h12]; decide)]
    refine ⟨nI cn, pu, co, we, nI cn, pu', co', we', ?_, rfl, U, C, V, cn, ⟨hn, rfl, rfl, c1, c2⟩, h0⟩
    rw [if_pos h12]
    cases hasCh U C u (72 * s + 12 * p + o) cn <;> rfl
  · rw [if_neg (show ¬ (12 : Int32) ≤ nI cn by rw [le12 (by omega)]; omega), isThereR c2 hn u (by omega), bd1v, ifbI]
    cases hasCh U C u (72 * s + 12 * p + o) cn with
    | true => exact ⟨nI cn, pu, co, we, nI cn, pu', co', we', rfl, rfl, U, C, V, cn, ⟨hn, rfl, rfl, c1, c2⟩, h0⟩
    | false =>
      rw [if_neg (show ¬ false = true by decide), if_neg (show ¬ false = true by decide), if_neg h12, enterR (by omega), bd4v]
      exact ⟨_, _, _, _, _, _, _, _, rfl, rfl, _, _, _, cn + 1, ⟨by omega, rfl, rfl, CHr_add c1 (by omega) (w := 1) (by omega) (by omega), CHr_add c2 (by omega) (w := 1) (by omega) (by omega)⟩, by omega⟩
set_option maxHeartbeats 4000000 in
/-- what is offered about one y -/
theorem aboutP {so : Int32} {ob me there now : Nat → Int32} {th : Nat → Bool} (h : TR2 so ob me there th) (hw : BAr now th 864) {ki ta pr nu ki' ta' pr' nu' : Nat → Int32} {K T P N : Nat → Nat} {n : Nat} (hn : n ≤ 10) (r1 : RUr ki ta pr nu K T P N n) (r2 : RUr ki' ta' pr' nu' K T P N n) {r x y : Nat} (hr : r < n) (hx : x < 12) (hy : y < 12) {chn changes : Int32} {pu co we pu' co' we' : Nat → Int32} {c0 : Nat} (hc : CHs c0 chn pu co we changes pu' co' we') (cl : Nat → Int32) :
    ∃ chn1 pu1 co1 we1 changes1 pu2 co2 we2 cl', mK0_offerAbout ob me ki pr nu chn pu co we (nI r) (nI x) (nI y) = some (chn1, pu1, co1, we1) ∧ (∀ kx rc, mK5_suggest_B87 ki' (nI r) (nI x) now (nI (P r)) (nI (N r)) kx rc (nI y) changes pu' co' we' cl = rc (nI (y + 1)) changes1 pu2 co2 we2 cl') ∧ CHs c0 chn1 pu1 co1 we1 changes1 pu2 co2 we2 := by
  obtain ⟨-, h1, h2, h3⟩ := h
  obtain ⟨e1, -, e3, e4, k6, -, p6, a12, b2, b4⟩ := r1 r hr
  obtain ⟨f1, -, f3, f4, -⟩ := r2 r hr
  have hr10 : r < 10 := by omega
  have eC : ∀ G : Int32 → Int32 → Int32 → Int32 → Option (Int32 × (Nat → Int32) × (Nat → Int32) × (Nat → Int32)), (bd1 (rd pr 10 (nI r)) fun x1 => bd1 (rd nu 10 (nI r)) fun x2 => bd1 (mK1_has ob (nI x) x1 (nI y)) fun x3 => bd1 (rd ki 10 (nI r)) fun x5 => G x1 x2 x3 x5) = G (nI (P r)) (nI (N r)) (bI (th (72 * x + 12 * P r + y))) (nI (K r)) := by
    intro G
    rw [rdN hr10 (by decide), bd1v, rdN hr10 (by decide), bd1v, e3, e4, hasT hx p6 hy, bd1v, rdN hr10 (by decide), bd1v, e1, OBr_at h1 hx p6 hy]
  have hgo : ¬ (12 : Int32) ≤ nI y := fun q => by rw [le12 (by omega)] at q; omega
  have eR : ∀ kx rc, mK5_suggest_B87 ki' (nI r) (nI x) now (nI (P r)) (nI (N r)) kx rc (nI y) changes pu' co' we' cl = mK5_suggest_J140 ki' (nI r) (nI x) now (nI (P r)) (nI (N r)) (nI y) changes pu' co' we' cl rc (bI (th (72 * x + 12 * P r + y))) (bI (decide (4 ≤ K r) && th (72 * x + 12 * N r + y))) := by
    intro kx rc
    unfold mK5_suggest_B87
    rw [if_neg hgo, codeT, bd1v, rdN (by omega) (by decide), bd1v, hw _ (by omega), rdN hr10 (by decide), bd1v, f1]
    by_cases h4 : 4 ≤ K r
    · rw [if_neg (show ¬ nI (K r) ≤ 3 by rw [nn3, nI_leI (by omega) (by omega)]; omega), codeT, bd1v, rdN (by have := b4 h4; omega) (by decide), bd1v, hw _ (by have := b4 h4; omega), decide_eq_true h4, Bool.true_and, ifbI]
      cases th (72 * x + 12 * N r + y) <;> rfl
    · rw [if_pos (show nI (K r) ≤ 3 by rw [nn3, nI_leI (by omega) (by omega)]; omega), decide_eq_false h4, Bool.false_and]
      rfl
  unfold mK0_offerAbout
  rw [eC]
  simp only [eR]
  unfold mK5_suggest_J140
  simp only [rdN (f := ki') hr10 (show 10 < 2 ^ 31 by decide), bd1v, f1]
  have stay : ∀ cl', ∃ chn1 pu1 co1 we1 changes1 pu2 co2 we2 cl'', some (chn, pu, co, we) = some (chn1, pu1, co1, we1) ∧ ((Int32 → (Nat → Int32) → (Nat → Int32) → (Nat → Int32) → (Nat → Int32) → (Option (Int32 × Int32 × (Nat → Int32) × (Nat → Int32) × (Nat → Int32) × (Nat → Int32) × (Nat → Int32)))) → ∀ (rc : Int32 → Int32 → (Nat → Int32) → (Nat → Int32) → (Nat → Int32) → (Nat → Int32) → Option (Int32 × Int32 × (Nat → Int32) × (Nat → Int32) × (Nat → Int32) × (Nat → Int32) × (Nat → Int32))), rc (nI (y + 1)) changes pu' co' we' cl' = rc (nI (y + 1)) changes1 pu2 co2 we2 cl'') ∧ CHs c0 chn1 pu1 co1 we1 changes1 pu2 co2 we2 := fun cl' => ⟨_, _, _, _, _, _, _, _, cl', rfl, fun _ _ => rfl, hc⟩
  have hk' : K r = 0 ∨ K r = 1 ∨ K r = 2 ∨ K r = 3 ∨ K r = 4 ∨ K r = 5 := by omega
  rcases hk' with e | e | e | e | e | e
  · rw [e]
    simp only [if_pos (show nI 0 = 0 from rfl), ifbI]
    cases hb : th (72 * x + 12 * P r + y) with
    | true => simpa only [if_true, nIs, bd1v] using stay cl
    | false =>
      obtain ⟨chn1, pu1, co1, we1, changes1, pu2, co2, we2, q1, q2, q3⟩ := offerP hc true hx p6 hy
      rw [bI_t] at q1 q2
      refine ⟨chn1, pu1, co1, we1, changes1, pu2, co2, we2, cl, ?_, fun kx rc => ?_, q3⟩
      · rw [if_neg (by decide), q1, bd4v]
      · rw [if_neg (by decide), codeT, bd1v, q2, bd4v, nIs]
  · rw [e]
    simp only [if_neg (show ¬ nI 1 = 0 by decide), if_pos (show nI 1 = 1 from rfl), ifbI]
    cases hb : th (72 * x + 12 * P r + y) with
    | false => simpa only [Bool.false_eq_true, if_false, nIs, bd1v] using stay cl
    | true =>
      obtain ⟨chn1, pu1, co1, we1, changes1, pu2, co2, we2, q1, q2, q3⟩ := offerP hc false hx p6 hy
      rw [bI_f] at q1 q2
      refine ⟨chn1, pu1, co1, we1, changes1, pu2, co2, we2, cl, ?_, fun kx rc => ?_, q3⟩
      · rw [if_pos rfl, q1, bd4v]
      · rw [if_pos rfl, codeT, bd1v, q2, bd4v, nIs]
  · rw [e]
    simp only [if_neg (show ¬ nI 2 = 0 by decide), if_neg (show ¬ nI 2 = 1 by decide), if_pos (show nI 2 = 2 from rfl), ifbI]
    have ha : N r < 12 := b2 (by omega)
    cases hb : th (72 * x + 12 * P r + y) with
    | false => simpa only [Bool.false_eq_true, if_false, nIs, bd1v] using stay cl
    | true =>
      obtain ⟨cl', e5⟩ := isOfNow hw cl hy ha
      rw [if_pos rfl, isMem hy ha, bd1v, (h2 _ ha).2 y hy]
      simp only [if_true, e5, bd2v, ifbI]
      cases isO th y (N r) with
      | true => simpa only [if_true, nIs, bd1v] using stay cl'
      | false =>
        obtain ⟨chn1, pu1, co1, we1, changes1, pu2, co2, we2, q1, q2, q3⟩ := offerP hc false hx p6 hy
        obtain ⟨chn3, pu3, co3, we3, changes3, pu4, co4, we4, q4, q5, q6⟩ := offerP q3 true hy (show 0 < 6 by decide) ha
        rw [bI_f] at q1 q2
        rw [bI_t] at q4 q5
        refine ⟨chn3, pu3, co3, we3, changes3, pu4, co4, we4, cl', ?_, fun kx rc => ?_, q6⟩
        · rw [if_neg (by decide), q1, bd4v, show (0 : Int32) = nI 0 from rfl, q4, bd4v]
        · rw [if_neg (by decide), codeT, bd1v, q2, bd4v, show mK5_codeOf (nI y) 0 (nI (N r)) = some (nI (72 * y + 12 * 0 + N r)) from codeT, bd1v, q5, bd4v, nIs]
  · rw [e]
    simp only [if_neg (show ¬ nI 3 = 0 by decide), if_neg (show ¬ nI 3 = 1 by decide), if_neg (show ¬ nI 3 = 2 by decide), if_pos (show nI 3 = 3 from rfl), ifbI]
    cases hb : th (72 * x + 12 * P r + y) with
    | false => simpa only [Bool.false_eq_true, if_false, nIs, bd1v] using stay cl
    | true =>
      by_cases ey : nI y = nI (N r)
      · obtain ⟨chn1, pu1, co1, we1, changes1, pu2, co2, we2, q1, q2, q3⟩ := offerP hc false hx p6 hy
        rw [bI_f] at q1 q2
        refine ⟨chn1, pu1, co1, we1, changes1, pu2, co2, we2, cl, ?_, fun kx rc => ?_, q3⟩
        · rw [if_pos rfl, if_pos ey, q1, bd4v]
        · rw [if_pos rfl, if_pos ey, codeT, bd1v, q2, bd4v, nIs]
      · simpa only [if_true, if_neg ey, nIs, bd1v] using stay cl
  · have ha : N r < 6 := b4 (by omega)
    rw [e]
    simp only [if_neg (show ¬ nI 4 = 0 by decide), if_neg (show ¬ nI 4 = 1 by decide), if_neg (show ¬ nI 4 = 2 by decide), if_neg (show ¬ nI 4 = 3 by decide), if_pos (show nI 4 = 4 from rfl)]
    rw [hasT hx ha hy, bd1v, OBr_at h1 hx ha hy]
    simp only [show decide (4 ≤ 4) = true from rfl, Bool.true_and]
    by_cases eb : th (72 * x + 12 * P r + y) = th (72 * x + 12 * N r + y)
    · simpa only [eb, if_true, nIs, bd1v] using stay cl
    · simp only [if_neg (fun z => eb (bI_inj z)), ifbI]
      unfold mK5_suggest_J317
      cases hb : th (72 * x + 12 * P r + y) with
      | true =>
        obtain ⟨chn1, pu1, co1, we1, changes1, pu2, co2, we2, q1, q2, q3⟩ := offerP hc false hx p6 hy
        obtain ⟨chn3, pu3, co3, we3, changes3, pu4, co4, we4, q4, q5, q6⟩ := offerP q3 true hx ha hy
        rw [bI_f] at q1 q2
        refine ⟨chn3, pu3, co3, we3, changes3, pu4, co4, we4, cl, ?_, fun kx rc => ?_, q6⟩
        · rw [if_pos rfl, q1, bd4v, q4, bd4v]
        · rw [if_pos rfl, codeT, bd1v, q2, bd4v, codeT, bd1v, q5, bd4v, nIs, bd1v]
      | false =>
        obtain ⟨chn1, pu1, co1, we1, changes1, pu2, co2, we2, q1, q2, q3⟩ := offerP hc true hx p6 hy
        obtain ⟨chn3, pu3, co3, we3, changes3, pu4, co4, we4, q4, q5, q6⟩ := offerP q3 false hx ha hy
        rw [bI_t] at q1 q2
        refine ⟨chn3, pu3, co3, we3, changes3, pu4, co4, we4, cl, ?_, fun kx rc => ?_, q6⟩
        · rw [if_neg (by decide), q1, bd4v, q4, bd4v]
        · rw [if_neg (by decide), codeT, bd1v, q2, bd4v, codeT, bd1v, q5, bd4v, nIs, bd1v]
  · have ha : N r < 6 := b4 (by omega)
    rw [e]
    simp only [if_neg (show ¬ nI 5 = 0 by decide), if_neg (show ¬ nI 5 = 1 by decide), if_neg (show ¬ nI 5 = 2 by decide), if_neg (show ¬ nI 5 = 3 by decide), if_neg (show ¬ nI 5 = 4 by decide), ifbI]
    simp only [show decide (4 ≤ 5) = true from rfl, Bool.true_and]
    cases hb : th (72 * x + 12 * P r + y) with
    | false => simpa only [Bool.false_eq_true, if_false, nIs, bd1v] using stay cl
    | true =>
      rw [if_pos rfl, hasT hx ha hy, bd1v, OBr_at h1 hx ha hy]
      simp only [if_true, ifbI]
      cases th (72 * x + 12 * N r + y) with
      | false => simpa only [Bool.false_eq_true, if_false, nIs, bd1v] using stay cl
      | true =>
        obtain ⟨chn1, pu1, co1, we1, changes1, pu2, co2, we2, q1, q2, q3⟩ := offerP hc false hx p6 hy
        obtain ⟨chn3, pu3, co3, we3, changes3, pu4, co4, we4, q4, q5, q6⟩ := offerP q3 false hx ha hy
        rw [bI_f] at q1 q2 q4 q5
        refine ⟨chn3, pu3, co3, we3, changes3, pu4, co4, we4, cl, ?_, fun kx rc => ?_, q6⟩
        · rw [if_pos rfl, q1, bd4v, q4, bd4v]
        · rw [if_pos rfl, codeT, bd1v, q2, bd4v, codeT, bd1v, q5, bd4v, nIs]
