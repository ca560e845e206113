/-! own rows: the reference's begin and isOfNow -/
theorem BAr_upd {a : Nat → Int32} {th : Nat → Bool} {n k : Nat} {b : Bool} (h : BAr a th n) : BAr (upd a k (bI b)) (fun j => if j = k then b else th j) n := fun j hj => by
  by_cases e : j = k
  · rw [e, upd_s]; show bI b = bI (if k = k then b else th k); rw [if_pos rfl]
  · rw [upd_n e]; show a j = bI (if j = k then b else th j); rw [if_neg e]; exact h j hj
theorem codeT {s p o : Nat} : mK5_codeOf (nI s) (nI p) (nI o) = some (nI (72 * s + 12 * p + o)) := by
  unfold mK5_codeOf
  rw [nn72, nn12, pk_mul, pk_mul, nI_add, nI_add]
/-- the inner row: what class c leads to comes in -/
theorem ofRow {now : Nat → Int32} {th : Nat → Bool} (hn : BAr now th 864) {c : Nat} (hc : c < 12) (K : (Nat → Int32) → Option (Int32 × (Nat → Int32))) (cl : Nat → Int32) (f0 : Nat → Bool) (h0 : BAr cl f0 12) :
    ∃ cl' f', mK5_isOfNow_L52 now (nI c) K 5000 0 cl = K cl' ∧ BAr cl' f' 12 ∧ ∀ d, d < 12 → f' d = (f0 d || (f0 c && th (72 * c + 12 + d))) := by
  refine lpU (S := Nat → Int32) (fun f i st => mK5_isOfNow_L52 now (nI c) K f (nI i) st) (fun o => ∃ cl' f', o = K cl' ∧ BAr cl' f' 12 ∧ ∀ d, d < 12 → f' d = (f0 d || (f0 c && th (72 * c + 12 + d)))) 12
    (fun i st => BAr st (fun d => f0 d || (f0 c && (th (72 * c + 12 + d) && decide (d < i)))) 12) ?_ ?_ 5000 0 cl (by omega) (by omega) ?_
  · intro f st hJ
    refine ⟨st, _, ?_, hJ, fun d hd => by rw [decide_eq_true hd, Bool.and_true]⟩
    show mK5_isOfNow_B52 now (nI c) K _ (nI 12) st = K st
    unfold mK5_isOfNow_B52
    rw [if_pos ((le12 (by omega)).mpr (by omega))]
  · intro f i st hi hJ
    have hgo : ¬ (12 : Int32) ≤ nI i := fun q => by rw [le12 (by omega)] at q; omega
    have hcc : st c = bI (f0 c || (f0 c && (th (72 * c + 12 + c) && decide (c < i)))) := hJ c hc
    cases hf : f0 c with
    | false =>
      left
      refine ⟨st, _, ?_, hJ, fun d hd => by rw [hf]; simp⟩
      show mK5_isOfNow_B52 now (nI c) K _ (nI i) st = K st
      unfold mK5_isOfNow_B52
      rw [if_neg hgo, rdN hc (by decide), bd1v, hcc, hf, if_pos (by simp [bI])]
    | true =>
      right
      have hsi : st i = bI (f0 i) := by rw [hJ i hi, hf]; simp
      have hth : now (72 * c + 12 + i) = bI (th (72 * c + 12 + i)) := hn _ (by omega)
      refine ⟨upd st i (bI (f0 i || th (72 * c + 12 + i))), fun j hj => ?_, ?_⟩
      · by_cases e : j = i
        · subst e; rw [upd_s]; simp
        · rw [upd_n e, hJ j hj]
          dsimp only
          rw [show decide (j < i + 1) = decide (j < i) from decide_eq_decide.mpr (by omega), hf]
      · show mK5_isOfNow_B52 now (nI c) K (mK5_isOfNow_L52 now (nI c) K f) (nI i) st = _
        unfold mK5_isOfNow_B52
        rw [if_neg hgo, rdN hc (by decide), bd1v, hcc, hf, if_neg (by simp [bI]), rdN hi (by decide), bd1v, hsi]
        cases hfi : f0 i with
        | true =>
          rw [if_neg (by simp [bI]), show vp_nar .boolean 1 = 1 from rfl, wrtN hi (by decide), bd1v, nIs, bd1v]
          rfl
        | false =>
          rw [if_pos (by simp [bI]), show mK5_codeOf (nI c) 1 (nI i) = some (nI (72 * c + 12 * 1 + i)) from codeT (p := 1), bd1v, rdN (by omega) (by decide), bd1v, show 72 * c + 12 * 1 + i = 72 * c + 12 + i by omega, hth]
          cases ht : th (72 * c + 12 + i) with
          | true => rw [if_neg (by simp [bI]), show vp_nar .boolean 1 = 1 from rfl, wrtN hi (by decide), bd1v, nIs, bd1v]; rfl
          | false => rw [if_pos (by simp [bI]), show vp_nar .boolean 0 = 0 from rfl, wrtN hi (by decide), bd1v, nIs, bd1v]; rfl
  · intro d hd
    rw [h0 d hd]; simp
/-- the sets of classes that the rounds may hold -/
def OfJ (th : Nat → Bool) (n : Nat) (f : Nat → Bool) : Prop := (∀ c, c < 12 → f c = true → Rch th n c) ∧ ∀ t, t < 12 → th (72 * n + t) = true → f t = true
/-- a round: the set grows by what its members lead to; if it doesn't grow, it is closed -/
theorem ofRound {now : Nat → Int32} {th : Nat → Bool} (hn : BAr now th 864) {nd : Nat} (K : (Nat → Int32) → Option (Int32 × (Nat → Int32))) (cl : Nat → Int32) (f0 : Nat → Bool) (h0 : BAr cl f0 12) (hj : OfJ th nd f0) :
    ∃ cl' f', mK5_isOfNow_L42 now K 5000 0 cl = K cl' ∧ BAr cl' f' 12 ∧ OfJ th nd f' ∧ (∀ d, d < 12 → f0 d = true → f' d = true) ∧ ∀ a b, a < 12 → b < 12 → f0 a = true → th (72 * a + 12 + b) = true → f' b = true := by
  refine lpU (S := Nat → Int32) (fun f i st => mK5_isOfNow_L42 now K f (nI i) st) (fun o => ∃ cl' f', o = K cl' ∧ BAr cl' f' 12 ∧ OfJ th nd f' ∧ (∀ d, d < 12 → f0 d = true → f' d = true) ∧ ∀ a b, a < 12 → b < 12 → f0 a = true → th (72 * a + 12 + b) = true → f' b = true) 12
    (fun i st => ∃ f', BAr st f' 12 ∧ OfJ th nd f' ∧ (∀ d, d < 12 → f0 d = true → f' d = true) ∧ ∀ a b, a < 12 → a < i → b < 12 → f0 a = true → th (72 * a + 12 + b) = true → f' b = true) ?_ ?_ 5000 0 cl (by omega) (by omega) ⟨f0, h0, hj, fun _ _ h => h, fun a b _ h => absurd h (by omega)⟩
  · rintro f st ⟨f', g1, g2, g3, g4⟩
    refine ⟨st, f', ?_, g1, g2, g3, fun a b ha hb => g4 a b ha ha hb⟩
    show mK5_isOfNow_B42 now K _ (nI 12) st = K st
    unfold mK5_isOfNow_B42
    rw [if_pos ((le12 (by omega)).mpr (by omega))]
  · rintro f i st hi ⟨f', g1, g2, g3, g4⟩
    right
    obtain ⟨cl', f2, e, k1, k2⟩ := ofRow hn hi (mK5_isOfNow_A52 (nI i) (mK5_isOfNow_L42 now K f)) st f' g1
    refine ⟨cl', ⟨f2, k1, ⟨fun c hc hq => ?_, fun t ht hq => by rw [k2 t ht, g2.2 t ht hq]; rfl⟩, fun d hd hq => by rw [k2 d hd, g3 d hd hq]; rfl, fun a b ha hai hb hq ht => ?_⟩, ?_⟩
    · rw [k2 c hc] at hq
      cases hr : f' c with
      | true => exact g2.1 c hc hr
      | false =>
        rw [hr, Bool.false_or, Bool.and_eq_true] at hq
        exact Rch_up hi hc (g2.1 i hi hq.1) hq.2
    · rw [k2 b hb]
      by_cases e2 : a = i
      · subst e2
        rw [g3 a ha hq, ht]; simp
      · rw [g4 a b ha (by omega) hb hq ht]; rfl
    · show mK5_isOfNow_B42 now K (mK5_isOfNow_L42 now K f) (nI i) st = _
      unfold mK5_isOfNow_B42
      rw [if_neg (fun q => by rw [le12 (by omega)] at q; omega), e]
      unfold mK5_isOfNow_A52
      rw [nIs, bd1v]
theorem cntB_mono {f g : Nat → Bool} : ∀ {n : Nat}, (∀ i, i < n → f i = true → g i = true) → cntB f n ≤ cntB g n
  | 0, _ => Nat.le_refl 0
  | n + 1, h => by
    have h1 := cntB_mono (n := n) (fun i hi => h i (by omega))
    rw [cntB, cntB]
    by_cases hf : f n = true
    · rw [if_pos hf, if_pos (h n (by omega) hf)]; omega
    · rw [if_neg hf]; split <;> omega
/-- a larger set with as many in it is the same -/
theorem cntB_same {f g : Nat → Bool} : ∀ {n : Nat}, (∀ i, i < n → f i = true → g i = true) → cntB g n ≤ cntB f n → ∀ i, i < n → g i = f i
  | 0, _, _, i, h => absurd h (by omega)
  | n + 1, h, hc, i, hi => by
    have h1 := cntB_mono (n := n) (fun i hi => h i (by omega))
    rw [cntB, cntB] at hc
    by_cases hf : f n = true
    · rw [if_pos hf, if_pos (h n (by omega) hf)] at hc
      rcases Nat.lt_or_ge i n with a | a
      · exact cntB_same (fun i hi => h i (by omega)) (by omega) i a
      · rw [show i = n by omega, hf, h n (by omega) hf]
    · have hg : g n ≠ true := fun q => by rw [if_neg hf, if_pos q] at hc; omega
      rw [if_neg hf, if_neg hg] at hc
      rcases Nat.lt_or_ge i n with a | a
      · exact cntB_same (fun i hi => h i (by omega)) (by omega) i a
      · rw [show i = n by omega]; cases hx : f n <;> cases hy : g n <;> simp_all
theorem cntB_pos {f : Nat → Bool} : ∀ {n i : Nat}, i < n → f i = true → 0 < cntB f n
  | 0, i, h, _ => absurd h (by omega)
  | n + 1, i, h, hf => by
    rw [cntB]
    rcases Nat.lt_or_ge i n with a | a
    · have := cntB_pos a hf; omega
    · rw [show n = i by omega, if_pos hf]; omega
theorem cntB_z {f : Nat → Bool} {n : Nat} (h : cntB f n = 0) {i : Nat} (hi : i < n) : f i = false := by
  cases hf : f i with
  | false => rfl
  | true => have := cntB_pos hi hf; omega
set_option maxHeartbeats 1000000 in
theorem isOfNow {now : Nat → Int32} {th : Nat → Bool} (hn : BAr now th 864) (cl : Nat → Int32) {nd c : Nat} (hnd : nd < 12) (hc : c < 12) : ∃ cl', mK5_isOfNow now cl (nI nd) (nI c) = some (bI (isO th nd c), cl') := by
  unfold mK5_isOfNow
  have hty : ∃ cl1, mK5_isOfNow_L2 now (nI nd) (mK5_isOfNow_A2 now (nI c)) 5000 0 cl = mK5_isOfNow_A2 now (nI c) cl1 ∧ BAr cl1 (fun t => th (72 * nd + t)) 12 := by
    refine lpU (S := Nat → Int32) (fun f i st => mK5_isOfNow_L2 now (nI nd) (mK5_isOfNow_A2 now (nI c)) f (nI i) st) (fun o => ∃ cl1, o = mK5_isOfNow_A2 now (nI c) cl1 ∧ BAr cl1 (fun t => th (72 * nd + t)) 12) 12 (fun i st => ∀ t, t < i → t < 12 → st t = bI (th (72 * nd + t))) ?_ ?_ 5000 0 cl (by omega) (by omega) (fun t h => absurd h (by omega))
    · intro f st hJ
      refine ⟨st, ?_, fun t ht => hJ t ht ht⟩
      show mK5_isOfNow_B2 now (nI nd) _ _ (nI 12) st = _
      unfold mK5_isOfNow_B2
      rw [if_pos ((le12 (by omega)).mpr (by omega))]
    · intro f i st hi hJ
      refine Or.inr ⟨upd st i (bI (th (72 * nd + i))), fun t h1 h2 => ?_, ?_⟩
      · by_cases e : t = i
        · rw [e, upd_s]
        · rw [upd_n e]; exact hJ t (by omega) h2
      · show mK5_isOfNow_B2 now (nI nd) _ (mK5_isOfNow_L2 now (nI nd) (mK5_isOfNow_A2 now (nI c)) f) (nI i) st = _
        unfold mK5_isOfNow_B2
        rw [if_neg (fun q => by rw [le12 (by omega)] at q; omega), show mK5_codeOf (nI nd) 0 (nI i) = some (nI (72 * nd + 12 * 0 + i)) from codeT (p := 0), bd1v, rdN (by omega) (by decide), bd1v, hn _ (by omega), nar_bI, wrtN hi (by decide), bd1v, nIs, bd1v]
        rfl
  obtain ⟨cl1, e1, hb1⟩ := hty
  rw [e1]
  unfold mK5_isOfNow_A2
  have hend : ∀ (st : Nat → Int32) (f' : Nat → Bool), BAr st f' 12 → OfJ th nd f' → (∀ a b, a < 12 → b < 12 → f' a = true → th (72 * a + 12 + b) = true → f' b = true) → mK5_isOfNow_A33 (nI c) st = some (bI (isO th nd c), st) := by
    intro st f' g1 g2 g3
    unfold mK5_isOfNow_A33
    rw [rdN hc (by decide), bd1v, g1 c hc, isO_of f' g2.1 g2.2 g3 c hc, bz_bI, bd1v]
  refine lpU (S := Nat → Int32) (fun f i st => mK5_isOfNow_L33 now (mK5_isOfNow_A33 (nI c)) f (nI i) st) (fun o => ∃ cl', o = some (bI (isO th nd c), cl')) 12
    (fun i st => ∃ f', BAr st f' 12 ∧ OfJ th nd f' ∧ ((∀ a b, a < 12 → b < 12 → f' a = true → th (72 * a + 12 + b) = true → f' b = true) ∨ i + 1 ≤ cntB f' 12)) ?_ ?_ 5000 0 cl1 (by omega) (by omega) ?_
  · rintro f st ⟨f', g1, g2, g3⟩
    refine ⟨st, ?_⟩
    show mK5_isOfNow_B33 now (mK5_isOfNow_A33 (nI c)) _ (nI 12) st = _
    unfold mK5_isOfNow_B33
    rw [if_pos ((le12 (by omega)).mpr (by omega))]
    rcases g3 with g3 | g3
    · exact hend st f' g1 g2 g3
    · have := cntB_le f' 12; omega
  · rintro f i st hi ⟨f', g1, g2, g3⟩
    right
    obtain ⟨cl', f2, e, k1, k2, k3, k4⟩ := ofRound hn (mK5_isOfNow_A42 (nI i) (mK5_isOfNow_L33 now (mK5_isOfNow_A33 (nI c)) f)) st f' g1 g2
    refine ⟨cl', ⟨f2, k1, k2, ?_⟩, ?_⟩
    · by_cases hq : cntB f2 12 ≤ cntB f' 12
      · left
        have hs := cntB_same k3 hq
        intro a b ha hb hfa ht
        exact k4 a b ha hb (by rw [← hs a ha]; exact hfa) ht
      · rcases g3 with g3 | g3
        · left
          have hs : ∀ d, d < 12 → f2 d = f' d := fun d hd => by rw [isO_of f' g2.1 g2.2 g3 d hd]; cases hx : f2 d with
            | true => exact (isO_t.mpr (k2.1 d hd hx)).symm
            | false =>
              cases hy : isO th nd d with
              | false => rfl
              | true => rw [k3 d hd (by rw [isO_of f' g2.1 g2.2 g3 d hd]; exact hy)] at hx; cases hx
          intro a b ha hb hfa ht
          exact k4 a b ha hb (by rw [← hs a ha]; exact hfa) ht
        · right; omega
    · show mK5_isOfNow_B33 now (mK5_isOfNow_A33 (nI c)) (mK5_isOfNow_L33 now (mK5_isOfNow_A33 (nI c)) f) (nI i) st = _
      unfold mK5_isOfNow_B33
      rw [if_neg (fun q => by rw [le12 (by omega)] at q; omega), e]
      unfold mK5_isOfNow_A42
      rw [nIs, bd1v]
  · refine ⟨_, hb1, ⟨fun c hc hq => Rch_ty hc hq, fun t ht hq => hq⟩, ?_⟩
    by_cases h0 : cntB (fun t => th (72 * nd + t)) 12 = 0
    · left
      intro a b ha hb hfa
      rw [cntB_z h0 ha] at hfa; cases hfa
    · right; omega
