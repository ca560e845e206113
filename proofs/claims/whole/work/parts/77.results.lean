/-! own rows: how many results there are, and the nth of them -/
theorem nI_sub {a b : Nat} (h : b ≤ a) : nI a - nI b = nI (a - b) := by
  obtain ⟨c, rfl⟩ : ∃ c, a = c + b := ⟨a - b, by omega⟩
  rw [← nI_add, Int32.add_sub_cancel, Nat.add_sub_cancel]
theorem nI_mul (a b : Nat) : nI a * nI b = nI (a * b) := (Int32.ofNat_mul a b).symm
theorem nI_12 (a : Nat) : (12 : Int32) * nI a = nI (12 * a) := by rw [nn12, nI_mul]
def resS (f : Nat → Nat → Bool) : Nat → Nat
  | 0 => 0
  | n + 1 => resS f n + cntB (f n) 12
theorem resS_le (f : Nat → Nat → Bool) : ∀ n, resS f n ≤ 12 * n
  | 0 => Nat.le_refl _
  | n + 1 => by have := resS_le f n; have := cntB_le (f n) 12; rw [resS]; omega
theorem resS_congr {f g : Nat → Nat → Bool} : ∀ {n : Nat}, (∀ r x, r < n → x < 12 → f r x = g r x) → resS f n = resS g n
  | 0, _ => rfl
  | n + 1, h => by rw [resS, resS, resS_congr (fun r x a b => h r x (by omega) b), cntB_congr (fun x hx => h n x (by omega) hx)]
set_option maxHeartbeats 1000000 in
theorem resultsC {ob me ki ta pr nu : Nat → Int32} {th : Nat → Bool} {K T P N : Nat → Nat} {n : Nat} (ho : OBr ob th) (hm : MEr me th) (hr : RUr ki ta pr nu K T P N n) (hn : n ≤ 10) : mK0_results ob me (nI n) ki ta pr nu = some (nI (resS (resB th K T P N) n)) := by
  unfold mK0_results
  refine lpU (S := Int32) (fun f i st => mK0_results_L4 ob me (nI n) ki ta pr nu mK0_results_A4 f st (nI i)) (fun o => o = some (nI (resS (resB th K T P N) n))) n
    (fun i st => st = nI (resS (resB th K T P N) i)) ?_ ?_ 5000 0 0 (by omega) (by omega) rfl
  · rintro f st rfl
    show mK0_results_B4 ob me (nI n) ki ta pr nu mK0_results_A4 _ _ (nI n) = _
    unfold mK0_results_B4
    rw [if_pos (nI_le (Nat.le_refl n) (by omega))]
    rfl
  · rintro f i st hi rfl
    right
    obtain ⟨z, e1, e2, e3⟩ := failingC ho hm hr hn hi
    refine ⟨_, rfl, ?_⟩
    show mK0_results_B4 ob me (nI n) ki ta pr nu mK0_results_A4 (mK0_results_L4 ob me (nI n) ki ta pr nu mK0_results_A4 f) _ (nI i) = _
    unfold mK0_results_B4
    rw [if_neg (fun q => by rw [nI_leI (by omega) (by omega)] at q; omega), e1, bd1v, bitC e2, bd1v, nI_add, bd1v, nIs, bd1v, resS, cntB_congr e3]
set_option maxHeartbeats 1000000 in
theorem resNowR {now ki ta pr nu : Nat → Int32} {th : Nat → Bool} {K T P N : Nat → Nat} {n : Nat} (hb : BAr now th 864) (hr : RUr ki ta pr nu K T P N n) (hn : n ≤ 10) (cl : Nat → Int32) : ∃ cl', mK5_resultsNow (nI n) now ki ta pr nu cl = some (nI (resS (resB th K T P N) n), cl') := by
  unfold mK5_resultsNow
  refine lpU (S := Int32 × (Nat → Int32)) (fun f i st => mK5_resultsNow_L4 (nI n) now ki ta pr nu mK5_resultsNow_A4 f st.1 (nI i) st.2) (fun o => ∃ cl', o = some (nI (resS (resB th K T P N) n), cl')) n
    (fun i st => st.1 = nI (resS (resB th K T P N) i)) ?_ ?_ 5000 0 (0, cl) (by omega) (by omega) rfl
  · rintro f ⟨st, c⟩ h
    dsimp only at h ⊢
    subst h
    refine ⟨c, ?_⟩
    show mK5_resultsNow_B4 (nI n) now ki ta pr nu mK5_resultsNow_A4 _ _ (nI n) c = _
    unfold mK5_resultsNow_B4
    rw [if_pos (nI_le (Nat.le_refl n) (by omega))]
    rfl
  · rintro f i ⟨st, c⟩ hi h
    dsimp only at h ⊢
    subst h
    right
    have key : ∀ rc : Int32 → Int32 → (Nat → Int32) → Option (Int32 × (Nat → Int32)), ∃ c', mK5_resultsNow_L14 now ki ta pr nu (nI i) (mK5_resultsNow_A14 (nI i) rc) 5000 (nI (resS (resB th K T P N) i)) 0 c = rc (nI (resS (resB th K T P N) (i + 1))) (nI (i + 1)) c' := by
      intro rc
      refine lpU (S := Int32 × (Nat → Int32)) (fun f j st => mK5_resultsNow_L14 now ki ta pr nu (nI i) (mK5_resultsNow_A14 (nI i) rc) f st.1 (nI j) st.2) (fun o => ∃ c', o = rc (nI (resS (resB th K T P N) (i + 1))) (nI (i + 1)) c') 12
        (fun j st => st.1 = nI (resS (resB th K T P N) i + cntB (resB th K T P N i) j)) ?_ ?_ 5000 0 (_, c) (by omega) (by omega) rfl
      · rintro f ⟨st, c⟩ h
        dsimp only at h ⊢
        subst h
        refine ⟨c, ?_⟩
        show mK5_resultsNow_B14 now ki ta pr nu (nI i) (mK5_resultsNow_A14 (nI i) rc) _ _ (nI 12) c = _
        unfold mK5_resultsNow_B14
        rw [if_pos ((le12 (by omega)).mpr (by omega))]
        unfold mK5_resultsNow_A14
        rw [nIs, bd1v]
        rfl
      · rintro f j ⟨st, c⟩ hj h
        dsimp only at h ⊢
        subst h
        right
        obtain ⟨c', e⟩ := isResR hb hr hn c hi hj
        refine ⟨(nI (resS (resB th K T P N) i + cntB (resB th K T P N i) (j + 1)), c'), rfl, ?_⟩
        show mK5_resultsNow_B14 now ki ta pr nu (nI i) (mK5_resultsNow_A14 (nI i) rc) (mK5_resultsNow_L14 now ki ta pr nu (nI i) (mK5_resultsNow_A14 (nI i) rc) f) _ (nI j) c = _
        unfold mK5_resultsNow_B14
        rw [if_neg (fun q => by rw [le12 (by omega)] at q; omega), e, bd2v, ifbI, cntB]
        cases hq : resB th K T P N i j with
        | true => rw [if_pos rfl, nIs, bd1v, nIs, bd1v, if_pos rfl, Nat.add_assoc]
        | false =>
          rw [if_neg (by decide), Int32.add_zero, bd1v, nIs, bd1v, if_neg (by decide), Nat.add_zero]
          rfl
    obtain ⟨c', e⟩ := key (mK5_resultsNow_L4 (nI n) now ki ta pr nu mK5_resultsNow_A4 f)
    refine ⟨(nI (resS (resB th K T P N) (i + 1)), c'), rfl, ?_⟩
    show mK5_resultsNow_B4 (nI n) now ki ta pr nu mK5_resultsNow_A4 (mK5_resultsNow_L4 (nI n) now ki ta pr nu mK5_resultsNow_A4 f) _ (nI i) c = _
    unfold mK5_resultsNow_B4
    rw [if_neg (fun q => by rw [nI_leI (by omega) (by omega)] at q; omega), e]
/-- the nth of a row that is cut in two -/
theorem nthF_split {f : Nat → Bool} : ∀ {a b i l : Nat}, nthF f (a + b) i l = if l < cntB (fun k => f (i + k)) a then nthF f a i l else nthF f b (i + a) (l - cntB (fun k => f (i + k)) a)
  | 0, b, i, l => by rw [Nat.zero_add]; rfl
  | a + 1, b, i, l => by
    rw [show a + 1 + b = a + (1 + b) by omega, nthF_split (a := a) (b := 1 + b), nthF_split (a := a) (b := 1), cntB]
    by_cases h : l < cntB (fun k => f (i + k)) a
    · rw [if_pos h, if_pos h, if_pos (by omega)]
    · rw [if_neg h, if_neg h, show 1 + b = b + 1 by omega, nthF, nthF]
      cases hb : f (i + a) with
      | false =>
        simp only [Bool.false_eq_true, if_false, Nat.add_zero, if_neg h]
        rfl
      | true =>
        rw [if_pos rfl, if_pos rfl, if_pos rfl]
        by_cases e : l - cntB (fun k => f (i + k)) a = 0
        · rw [if_pos e, if_pos e, if_pos (by omega)]
        · rw [if_neg e, if_neg (by omega), show l - (cntB (fun k => f (i + k)) a + 1) = l - cntB (fun k => f (i + k)) a - 1 by omega]
          rfl
theorem nthF_shift {f : Nat → Bool} {c : Nat} : ∀ {a i l : Nat}, nthF f a (c + i) l = (nthF (fun k => f (c + k)) a i l).map (c + ·)
  | 0, i, l => rfl
  | a + 1, i, l => by
    rw [nthF, nthF, show c + i + 1 = c + (i + 1) by omega, nthF_shift (l := l - 1), nthF_shift (l := l)]
    by_cases h : f (c + i) = true
    · rw [if_pos h, if_pos h]
      by_cases e : l = 0
      · rw [if_pos e, if_pos e]; rfl
      · rw [if_neg e, if_neg e]
    · rw [if_neg h, if_neg h]
theorem nthF_congr {f g : Nat → Bool} : ∀ {a i l : Nat}, (∀ k, i ≤ k → k < i + a → f k = g k) → nthF f a i l = nthF g a i l
  | 0, i, l, _ => rfl
  | a + 1, i, l, h => by
    rw [nthF, nthF, h i (by omega) (by omega), nthF_congr (l := l) (fun k p q => h k (by omega) (by omega)), nthF_congr (l := l - 1) (fun k p q => h k (by omega) (by omega))]
theorem nthF_some {f : Nat → Bool} : ∀ {a i l : Nat}, l < cntB (fun k => f (i + k)) a → ∃ k, nthF f a i l = some k ∧ i ≤ k ∧ k < i + a ∧ f k = true
  | 0, i, l, h => absurd h (by rw [cntB]; omega)
  | a + 1, i, l, h => by
    rw [nthF_split (a := a) (b := 1)]
    rw [cntB] at h
    by_cases e : l < cntB (fun k => f (i + k)) a
    · rw [if_pos e]
      obtain ⟨k, h1, h2, h3, h4⟩ := nthF_some e
      exact ⟨k, h1, h2, by omega, h4⟩
    · rw [if_neg e]
      cases hb : f (i + a) with
      | false => rw [hb, if_neg (by decide)] at h; omega
      | true =>
        rw [hb, if_pos rfl] at h
        exact ⟨i + a, by rw [nthF, hb, if_pos rfl, if_pos (by omega)], by omega, by omega, hb⟩
/-- the results in their order, as truths by numbers -/
def rowB (f : Nat → Nat → Bool) : Nat → Bool := fun k => f (k / 12) (k % 12)
set_option maxHeartbeats 1000000 in
theorem nthResC {ob me tob tme ki ta pr nu : Nat → Int32} {v2 : Int32} {n : Nat} (hn : n ≤ 10) (f : Nat → Nat → Bool) (hrow : ∀ r, r < n → ∃ z, sm z ∧ (∀ x, x < 12 → bt z x = f r x) ∧ ∀ kx rc q, mK0_nthResult_B12 ob me tob tme (nI n) ki ta pr nu v2 kx rc q (nI r) = mK0_nthResult_J63 q (nI r) rc z) {l : Nat} (hl : l < 2 ^ 31) :
    mK0_nthResult ob me tob tme (nI n) ki ta pr nu (nI l) v2 = some (oI (nthF (rowB f) (12 * n) 0 l)) := by
  unfold mK0_nthResult
  rw [if_pos (nI_pos' hl)]
  refine lpU (S := Int32) (fun fu i st => mK0_nthResult_L12 ob me tob tme (nI n) ki ta pr nu v2 mK0_nthResult_A12 fu st (nI i)) (fun o => o = some (oI (nthF (rowB f) (12 * n) 0 l))) n
    (fun i st => ∃ q, st = nI q ∧ q < 2 ^ 31 ∧ nthF (rowB f) (12 * (n - i)) (12 * i) q = nthF (rowB f) (12 * n) 0 l) ?_ ?_ 5000 0 (nI l) (by omega) (by omega) ⟨l, rfl, hl, rfl⟩
  · rintro fu st ⟨q, rfl, hq, e⟩
    show mK0_nthResult_B12 ob me tob tme (nI n) ki ta pr nu v2 mK0_nthResult_A12 _ (nI q) (nI n) = _
    unfold mK0_nthResult_B12
    rw [if_pos (nI_le (Nat.le_refl n) (by omega)), ← e, Nat.sub_self]
    rfl
  · rintro fu i st hi ⟨q, rfl, hq, e⟩
    obtain ⟨z, z1, z2, z3⟩ := hrow i hi
    have hc : cntB (fun k => rowB f (12 * i + k)) 12 = cntB (bt z) 12 := cntB_congr fun k hk => by
      unfold rowB
      rw [z2 k hk, show (12 * i + k) / 12 = i by omega, show (12 * i + k) % 12 = k by omega]
    rw [show 12 * (n - i) = 12 + 12 * (n - (i + 1)) by omega, nthF_split, hc] at e
    have hc2 := cntB_le (bt z) 12
    by_cases hlt : q < cntB (bt z) 12
    · left
      rw [if_pos hlt] at e
      show mK0_nthResult_B12 ob me tob tme (nI n) ki ta pr nu v2 mK0_nthResult_A12 _ (nI q) (nI i) = _
      rw [z3]
      unfold mK0_nthResult_J63
      rw [bitC z1, bd1v, if_neg (fun w => by rw [nI_leI (by omega) (by omega)] at w; omega), nthMemC hq, bd1v, ← e, nI_12]
      have hsh := nthF_shift (f := rowB f) (c := 12 * i) (a := 12) (i := 0) (l := q)
      rw [Nat.add_zero, nthF_congr (f := fun k => rowB f (12 * i + k)) (g := bt z) (fun k _ hk => by
        show f ((12 * i + k) / 12) ((12 * i + k) % 12) = _
        rw [z2 k (by omega), show (12 * i + k) / 12 = i by omega, show (12 * i + k) % 12 = k by omega])] at hsh
      rw [hsh]
      obtain ⟨k, h1, -, -, -⟩ := nthF_some (f := bt z) (a := 12) (i := 0) (l := q) (by rw [cntB_congr (g := bt z) (fun k _ => by rw [Nat.zero_add])]; exact hlt)
      rw [h1]
      show some (nI (12 * i) + nI k) = some (nI (12 * i + k))
      rw [nI_add]
    · right
      rw [if_neg hlt] at e
      refine ⟨nI (q - cntB (bt z) 12), ⟨_, rfl, by omega, ?_⟩, ?_⟩
      · rw [← e, show 12 * i + 12 = 12 * (i + 1) by omega]
      · show mK0_nthResult_B12 ob me tob tme (nI n) ki ta pr nu v2 mK0_nthResult_A12 (mK0_nthResult_L12 ob me tob tme (nI n) ki ta pr nu v2 mK0_nthResult_A12 fu) (nI q) (nI i) = _
        rw [z3]
        unfold mK0_nthResult_J63
        rw [bitC z1, bd1v, if_pos ((nI_leI (by omega) (by omega)).mpr (by omega)), nI_sub (by omega), bd1v, nIs, bd1v]
theorem nthResN {ob me tob tme ki ta pr nu : Nat → Int32} {v2 k n : Int32} (hk : k < 0) : mK0_nthResult ob me tob tme n ki ta pr nu k v2 = some (-2) := by
  unfold mK0_nthResult
  rw [if_neg (fun q => by rw [Int32.le_iff_toInt_le] at q; rw [Int32.lt_iff_toInt_lt] at hk; omega)]
