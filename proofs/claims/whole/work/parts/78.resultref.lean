/-! own rows: the nth result in the reference; results, result, isOf, breaks, apply: class and reference alike -/
def TR2 (so : Int32) (ob me there : Nat → Int32) (th : Nat → Bool) : Prop := so = 1 ∧ OBr ob th ∧ MEr me th ∧ BAr there th 864
def RU2 (run : Int32) (ki ta pr nu : Nat → Int32) (rules : Int32) (ki' ta' pr' nu' : Nat → Int32) (K T P N : Nat → Nat) (n : Nat) : Prop := n ≤ 10 ∧ run = nI n ∧ rules = nI n ∧ RUr ki ta pr nu K T P N n ∧ RUr ki' ta' pr' nu' K T P N n
def CH2 (chn : Int32) (pu co we : Nat → Int32) (changes : Int32) (pu' co' we' : Nat → Int32) (U : Nat → Bool) (C V : Nat → Nat) (n : Nat) : Prop := n ≤ 12 ∧ chn = nI n ∧ changes = nI n ∧ CHr pu co we U C V n ∧ CHr pu' co' we' U C V n
def below (S : Int32) (n : Nat) : Prop := ∀ c, n ≤ c → c < 32 → bt S c = false
def FO2 (fon : Int32) (se : Nat → Int32) (found : Int32) (sets : Nat → Int32) (n k : Nat) : Prop := k ≤ 30 ∧ fon = nI k ∧ found = nI k ∧ ∀ i, i < k → se i = sets i ∧ ¬ sets i = 0 ∧ below (sets i) n
theorem div12 {k : Nat} (hk : k < 2 ^ 31) : nI k / 12 = nI (k / 12) := by rw [nn12]; exact pk_div (by omega) (by omega) (by omega)
theorem rem12 {k : Nat} (hk : k < 2 ^ 31) : nI k - nI k / 12 * 12 = nI (k % 12) := by rw [nn12]; exact pk_rem (by omega) (by omega) (by omega)
set_option maxHeartbeats 1000000 in
theorem resultR {there now pu co we ki ta pr nu : Nat → Int32} {th U : Nat → Bool} {C V : Nat → Nat} {cn : Nat} {K T P N : Nat → Nat} {n : Nat} (h : BAr there th 864) (hc : CHr pu co we U C V cn) (hcn : cn ≤ 12) (hr : RUr ki ta pr nu K T P N n) (hn : n ≤ 10) (cl : Nat → Int32) {l : Nat} (hl : l < 2 ^ 31) :
    ∃ now' cl', mK5_result (nI n) (nI cn) there now ki ta pr nu pu co cl (nI l) = some (oI (nthF (rowB (resB th K T P N)) (12 * n) 0 l), now', cl') := by
  unfold mK5_result
  obtain ⟨nw, e, hb⟩ := beginT (now := now) h hc hcn 0
  rw [thS_0 cn (by omega)] at hb
  rw [e, bd1v]
  refine ⟨nw, ?_⟩
  refine lpU (S := Int32 × (Nat → Int32)) (fun f i st => mK5_result_L9 (nI n) ki ta pr nu (nI l) nw (mK5_result_A9 nw) f st.1 (nI i) st.2) (fun o => ∃ cl', o = some (oI (nthF (rowB (resB th K T P N)) (12 * n) 0 l), nw, cl')) (12 * n)
    (fun i st => ∃ q, st.1 = nI q ∧ q < 2 ^ 31 ∧ nthF (rowB (resB th K T P N)) (12 * n - i) i q = nthF (rowB (resB th K T P N)) (12 * n) 0 l) ?_ ?_ 5000 0 (nI l, cl) (by omega) (by omega) ⟨l, rfl, hl, rfl⟩
  · rintro fu ⟨st, c⟩ ⟨q, e1, hq, e⟩
    dsimp only at e1 ⊢
    subst e1
    refine ⟨c, ?_⟩
    show mK5_result_B9 (nI n) ki ta pr nu (nI l) nw (mK5_result_A9 nw) _ (nI q) (nI (12 * n)) c = _
    unfold mK5_result_B9
    rw [nI_12, if_pos (nI_le (Nat.le_refl _) (by omega)), ← e, Nat.sub_self]
    rfl
  · rintro fu i ⟨st, c⟩ hi ⟨q, e1, hq, e⟩
    dsimp only at e1 ⊢
    subst e1
    obtain ⟨c', e2⟩ := isResR hb hr hn c (r := i / 12) (x := i % 12) (by omega) (by omega)
    have hB : ∀ rc, mK5_result_B9 (nI n) ki ta pr nu (nI l) nw (mK5_result_A9 nw) rc (nI q) (nI i) c = if rowB (resB th K T P N) i = true then (if q = 0 then some (nI i, nw, c') else rc (nI (q - 1)) (nI (i + 1)) c') else rc (nI q) (nI (i + 1)) c' := by
      intro rc
      unfold mK5_result_B9
      rw [nI_12, if_neg (fun w => by rw [nI_leI (by omega) (by omega)] at w; omega), if_neg (nI_pos hl), rem12 (by omega), div12 (by omega), e2, bd2v, ifbI]
      show _ = if resB th K T P N (i / 12) (i % 12) = true then _ else _
      by_cases hb2 : resB th K T P N (i / 12) (i % 12) = true
      · rw [if_pos hb2, if_pos hb2, hb2]
        by_cases h0 : q = 0
        · rw [if_pos ((nI_z hq).mpr h0), if_pos h0]
        · rw [if_neg (fun z => h0 ((nI_z hq).mp z)), if_neg h0, if_neg (by decide), nn1, nI_sub (by omega), bd1v, nI_add, bd1v]
      · rw [if_neg hb2, if_neg hb2, Bool.eq_false_iff.mpr hb2, if_pos bI_f, Int32.sub_zero, bd1v, nIs, bd1v]
    rw [show 12 * n - i = (12 * n - (i + 1)) + 1 by omega, nthF] at e
    by_cases hb2 : rowB (resB th K T P N) i = true
    · rw [if_pos hb2] at e
      by_cases h0 : q = 0
      · left
        refine ⟨c', ?_⟩
        show mK5_result_B9 (nI n) ki ta pr nu (nI l) nw (mK5_result_A9 nw) _ (nI q) (nI i) c = _
        rw [hB, if_pos hb2, if_pos h0]
        rw [if_pos h0] at e
        rw [← e]
        rfl
      · right
        rw [if_neg h0] at e
        refine ⟨(nI (q - 1), c'), ⟨q - 1, rfl, by omega, e⟩, ?_⟩
        show mK5_result_B9 (nI n) ki ta pr nu (nI l) nw (mK5_result_A9 nw) _ (nI q) (nI i) c = _
        rw [hB, if_pos hb2, if_neg h0]
    · right
      rw [if_neg hb2] at e
      refine ⟨(nI q, c'), ⟨q, rfl, hq, e⟩, ?_⟩
      show mK5_result_B9 (nI n) ki ta pr nu (nI l) nw (mK5_result_A9 nw) _ (nI q) (nI i) c = _
      rw [hB, if_neg hb2]
theorem resultRN {there now pu co we ki ta pr nu : Nat → Int32} {th U : Nat → Bool} {C V : Nat → Nat} {cn : Nat} {rn : Int32} (h : BAr there th 864) (hc : CHr pu co we U C V cn) (hcn : cn ≤ 12) (cl : Nat → Int32) {k : Int32} (hk : k < 0) :
    ∃ now' cl', mK5_result rn (nI cn) there now ki ta pr nu pu co cl k = some (-2, now', cl') := by
  unfold mK5_result
  obtain ⟨nw, e, hb⟩ := beginT (now := now) h hc hcn 0
  rw [e, bd1v]
  refine ⟨nw, cl, ?_⟩
  show mK5_result_B9 rn ki ta pr nu k nw (mK5_result_A9 nw) _ k 0 cl = _
  unfold mK5_result_B9
  rw [if_pos hk]
  split <;> rfl
noncomputable def brkB (th th' : Nat → Bool) (K T P N : Nat → Nat) : Nat → Nat → Bool := fun r x => resB th' K T P N r x && !resB th K T P N r x
set_option maxHeartbeats 2000000 in
theorem breaksR {there now pu co we ki ta pr nu sets : Nat → Int32} {th U : Nat → Bool} {C V : Nat → Nat} {cn i0 : Nat} {K T P N : Nat → Nat} {n : Nat} {S : Int32} (h : BAr there th 864) (hc : CHr pu co we U C V cn) (hcn : cn ≤ 12) (hr : RUr ki ta pr nu K T P N n) (hn : n ≤ 10) (cl : Nat → Int32) {l : Nat} (hl : l < 2 ^ 31) (hi0 : i0 < 30) (hS : sets i0 = S) :
    ∃ now' cl', mK5_breaks_L16 (nI n) (nI cn) there ki ta pr nu pu co sets (nI i0) (nI l) mK5_breaks_A16 5000 (nI l) 0 now cl = some (oI (nthF (rowB (brkB th (thS th U C S cn) K T P N)) (12 * n) 0 l), now', cl') := by
  generalize hf : brkB th (thS th U C S cn) K T P N = f
  refine lpU (S := Int32 × (Nat → Int32) × (Nat → Int32)) (fun fu i st => mK5_breaks_L16 (nI n) (nI cn) there ki ta pr nu pu co sets (nI i0) (nI l) mK5_breaks_A16 fu st.1 (nI i) st.2.1 st.2.2) (fun o => ∃ now' cl', o = some (oI (nthF (rowB f) (12 * n) 0 l), now', cl')) (12 * n)
    (fun i st => ∃ q, st.1 = nI q ∧ q < 2 ^ 31 ∧ nthF (rowB f) (12 * n - i) i q = nthF (rowB f) (12 * n) 0 l) ?_ ?_ 5000 0 (nI l, now, cl) (by omega) (by omega) ⟨l, rfl, hl, rfl⟩
  · rintro fu ⟨st, nw, c⟩ ⟨q, e1, hq, e⟩
    dsimp only at e1 ⊢
    subst e1
    refine ⟨nw, c, ?_⟩
    show mK5_breaks_B16 (nI n) (nI cn) there ki ta pr nu pu co sets (nI i0) (nI l) mK5_breaks_A16 _ (nI q) (nI (12 * n)) nw c = _
    unfold mK5_breaks_B16
    rw [nI_12, if_pos (nI_le (Nat.le_refl _) (by omega)), ← e, Nat.sub_self]
    rfl
  · rintro fu i ⟨st, nw, c⟩ hi ⟨q, e1, hq, e⟩
    dsimp only at e1 ⊢
    subst e1
    obtain ⟨n1, en1, hb1⟩ := beginT (now := nw) h hc hcn 0
    rw [thS_0 cn (by omega)] at hb1
    obtain ⟨c1, e2⟩ := isResR hb1 hr hn c (r := i / 12) (x := i % 12) (by omega) (by omega)
    obtain ⟨n2, en2, hb2⟩ := beginT (now := n1) h hc hcn S
    obtain ⟨c2, e3⟩ := isResR hb2 hr hn c1 (r := i / 12) (x := i % 12) (by omega) (by omega)
    have hJ : ∀ rc b c', mK5_breaks_J90 (nI q) (nI i) rc n2 (bI b) c' = if b = true then (if q = 0 then some (nI i, n2, c') else rc (nI (q - 1)) (nI (i + 1)) n2 c') else rc (nI q) (nI (i + 1)) n2 c' := by
      intro rc b c'
      unfold mK5_breaks_J90
      cases b with
      | true =>
        rw [if_neg (by decide), if_pos rfl]
        by_cases h0 : q = 0
        · rw [if_pos ((nI_z hq).mpr h0), if_pos h0]
        · rw [if_neg (fun z => h0 ((nI_z hq).mp z)), if_neg h0, if_neg (by decide), nn1, nI_sub (by omega), bd1v, nI_add, bd1v]
      | false => rw [if_pos bI_f, if_pos bI_f, if_neg (by decide), Int32.sub_zero, bd1v, nIs, bd1v]
    have hB : ∀ rc, ∃ c', mK5_breaks_B16 (nI n) (nI cn) there ki ta pr nu pu co sets (nI i0) (nI l) mK5_breaks_A16 rc (nI q) (nI i) nw c = if rowB f i = true then (if q = 0 then some (nI i, n2, c') else rc (nI (q - 1)) (nI (i + 1)) n2 c') else rc (nI q) (nI (i + 1)) n2 c' := by
      intro rc
      unfold mK5_breaks_B16
      rw [nI_12, if_neg (fun w => by rw [nI_leI (by omega) (by omega)] at w; omega), if_neg (nI_pos hl), en1, bd1v, rem12 (by omega), div12 (by omega), e2, bd2v, rdN (by omega) (by decide), bd1v, hS, en2, bd1v, ifbI]
      have hrow : rowB f i = (resB (thS th U C S cn) K T P N (i / 12) (i % 12) && !resB th K T P N (i / 12) (i % 12)) := by rw [← hf]; rfl
      rw [hrow]
      unfold mK5_breaks_J89
      cases h1 : resB th K T P N (i / 12) (i % 12) with
      | true =>
        refine ⟨c1, ?_⟩
        rw [if_pos rfl, ← bI_f, hJ]
        simp
      | false =>
        refine ⟨c2, ?_⟩
        rw [if_neg (by decide), e3, bd2v, ifbI, ← bI_f, ← bI_t, hJ, hJ]
        cases h2 : resB (thS th U C S cn) K T P N (i / 12) (i % 12) <;> simp
    obtain ⟨c', hB⟩ := hB (mK5_breaks_L16 (nI n) (nI cn) there ki ta pr nu pu co sets (nI i0) (nI l) mK5_breaks_A16 fu)
    rw [show 12 * n - i = (12 * n - (i + 1)) + 1 by omega, nthF] at e
    by_cases hb2 : rowB f i = true
    · rw [if_pos hb2] at e
      by_cases h0 : q = 0
      · left
        refine ⟨n2, c', ?_⟩
        show mK5_breaks_B16 (nI n) (nI cn) there ki ta pr nu pu co sets (nI i0) (nI l) mK5_breaks_A16 _ (nI q) (nI i) nw c = _
        rw [hB, if_pos hb2, if_pos h0]
        rw [if_pos h0] at e
        rw [← e]
        rfl
      · right
        rw [if_neg h0] at e
        refine ⟨(nI (q - 1), n2, c'), ⟨q - 1, rfl, by omega, e⟩, ?_⟩
        show mK5_breaks_B16 (nI n) (nI cn) there ki ta pr nu pu co sets (nI i0) (nI l) mK5_breaks_A16 _ (nI q) (nI i) nw c = _
        rw [hB, if_pos hb2, if_neg h0]
    · right
      rw [if_neg hb2] at e
      refine ⟨(nI q, n2, c'), ⟨q, rfl, hq, e⟩, ?_⟩
      show mK5_breaks_B16 (nI n) (nI cn) there ki ta pr nu pu co sets (nI i0) (nI l) mK5_breaks_A16 _ (nI q) (nI i) nw c = _
      rw [hB, if_neg hb2]
/-! ranges -/
theorem inR (v : Int32) (m : Nat) (hm : m < 2 ^ 31) : (∃ j, j ≤ m ∧ v = nI j ∧ mK5_in v 0 (nI m) = some 1) ∨ (mK5_in v 0 (nI m) = some 0 ∧ ∀ j, j ≤ m → ¬ v = nI j) := by
  unfold mK5_in
  by_cases h0 : v < 0
  · right
    rw [if_pos h0]
    exact ⟨rfl, fun j hj e => by rw [e] at h0; exact nI_pos (by omega) h0⟩
  · rw [if_neg h0]
    obtain ⟨j, hj, rfl⟩ := nI_of h0
    by_cases h1 : m < j
    · right
      rw [if_pos ((nI_ltI (by omega) (by omega)).mpr h1)]
      exact ⟨rfl, fun i hi e => by rw [nI_eq (by omega) (by omega)] at e; omega⟩
    · left
      rw [if_neg (fun q => h1 ((nI_ltI (by omega) (by omega)).mp q))]
      exact ⟨j, by omega, rfl, rfl⟩
theorem isNodeC (v : Int32) : (∃ j, j < 12 ∧ v = nI j ∧ mK0_isNode v = some 1 ∧ mK5_in v 0 11 = some 1) ∨ (mK0_isNode v = some 0 ∧ mK5_in v 0 11 = some 0) := by
  unfold mK0_isNode
  rcases inR v 11 (by decide) with ⟨j, hj, rfl, e⟩ | ⟨e, h⟩
  · left
    exact ⟨j, by omega, rfl, by rw [if_neg (nI_pos (by omega)), if_neg (fun q => by rw [le12 (by omega)] at q; omega)], e⟩
  · right
    refine ⟨?_, e⟩
    by_cases h0 : v < 0
    · rw [if_pos h0]
    · obtain ⟨j, hj, rfl⟩ := nI_of h0
      rw [if_neg h0, if_pos ((le12 hj).mpr (by
        rcases Nat.lt_or_ge j 12 with q | q
        · exact absurd rfl (h j (by omega))
        · exact q))]
theorem isPredC (v : Int32) : (∃ j, j < 6 ∧ v = nI j ∧ mK0_isPredicate v = some 1 ∧ mK5_in v 0 5 = some 1) ∨ (mK0_isPredicate v = some 0 ∧ mK5_in v 0 5 = some 0) := by
  unfold mK0_isPredicate
  rcases inR v 5 (by decide) with ⟨j, hj, rfl, e⟩ | ⟨e, h⟩
  · left
    exact ⟨j, by omega, rfl, by rw [if_neg (nI_pos (by omega)), if_neg (fun q => by rw [nn6, nI_leI (by omega) (by omega)] at q; omega)], e⟩
  · right
    refine ⟨?_, e⟩
    by_cases h0 : v < 0
    · rw [if_pos h0]
    · obtain ⟨j, hj, rfl⟩ := nI_of h0
      rw [if_neg h0, if_pos (by
        rw [nn6, nI_leI (by omega) hj]
        rcases Nat.lt_or_ge j 6 with q | q
        · exact absurd rfl (h j (by omega))
        · exact q)]
theorem isTripC (s p o : Int32) : (∃ a b c, a < 12 ∧ b < 6 ∧ c < 12 ∧ s = nI a ∧ p = nI b ∧ o = nI c ∧ mK0_isTriple s p o = some 1 ∧ mK5_isTriple s p o = some 1) ∨ (mK0_isTriple s p o = some 0 ∧ mK5_isTriple s p o = some 0) := by
  unfold mK0_isTriple mK5_isTriple
  rcases isNodeC s with ⟨a, ha, ea, e1, e2⟩ | ⟨e1, e2⟩
  · rw [e1, e2, bd1v, bd1v, if_neg (by decide), if_neg (by decide)]
    rcases isPredC p with ⟨b, hb, eb, e3, e4⟩ | ⟨e3, e4⟩
    · rw [e3, e4, bd1v, bd1v, if_neg (by decide), if_neg (by decide)]
      rcases isNodeC o with ⟨c, hc, ec, e5, e6⟩ | ⟨e5, e6⟩
      · rw [e5, e6]
        exact Or.inl ⟨a, b, c, ha, hb, hc, ea, eb, ec, rfl, rfl⟩
      · rw [e5, e6]; exact Or.inr ⟨rfl, rfl⟩
    · rw [e3, e4]; exact Or.inr ⟨rfl, rfl⟩
  · rw [e1, e2]; exact Or.inr ⟨rfl, rfl⟩
theorem in_none (v : Int32) : mK5_in v 0 (nI 0 - 1) = some 0 := by
  unfold mK5_in
  by_cases h : v < 0
  · rw [if_pos h]
  · rw [if_neg h, if_pos (by
      obtain ⟨j, hj, rfl⟩ := nI_of h
      rw [Int32.lt_iff_toInt_lt, nI_toInt hj]
      have : (nI 0 - 1).toInt = -1 := by decide
      omega)]
theorem inN (v : Int32) (n : Nat) (hn : n < 2 ^ 31) : (∃ j, j < n ∧ v = nI j ∧ mK5_in v 0 (nI n - 1) = some 1) ∨ (mK5_in v 0 (nI n - 1) = some 0 ∧ ∀ j, j < n → ¬ v = nI j) := by
  rcases Nat.eq_zero_or_pos n with rfl | h
  · right; exact ⟨in_none v, fun j hj => absurd hj (by omega)⟩
  · rw [nn1, nI_sub (by omega)]
    rcases inR v (n - 1) (by omega) with ⟨j, hj, e⟩ | ⟨e, hq⟩
    · left; exact ⟨j, by omega, e⟩
    · right; exact ⟨e, fun j hj => hq j (by omega)⟩
/-- a number of a found set, in both -/
theorem atC {fon found : Int32} {se sets : Nat → Int32} {n k : Nat} (h : FO2 fon se found sets n k) (v : Int32) : (∃ j, j < k ∧ v = nI j ∧ mK4_at fon se v = some (sets j) ∧ ¬ sets j = 0 ∧ below (sets j) n ∧ mK5_isFound found v = some 1) ∨ (mK4_at fon se v = some 0 ∧ mK5_isFound found v = some 0) := by
  obtain ⟨hk, rfl, rfl, hf⟩ := h
  unfold mK4_at mK5_isFound
  rcases inN v k (by omega) with ⟨j, hj, rfl, e⟩ | ⟨e, h⟩
  · left
    obtain ⟨f1, f2, f3⟩ := hf j hj
    refine ⟨j, hj, rfl, ?_, f2, f3, by rw [e, bd1v]; rfl⟩
    rw [if_neg (nI_pos (by omega)), if_neg (fun q => by rw [nI_leI (by omega) (by omega)] at q; omega), rdN (by omega) (by decide), bd1v, f1]
  · right
    refine ⟨?_, by rw [e, bd1v]; rfl⟩
    by_cases h0 : v < 0
    · rw [if_pos h0]
    · obtain ⟨j, hj, rfl⟩ := nI_of h0
      rw [if_neg h0, if_pos (by
        rw [nI_leI (by omega) hj]
        rcases Nat.lt_or_ge j k with q | q
        · exact absurd rfl (h j q)
        · exact q)]
