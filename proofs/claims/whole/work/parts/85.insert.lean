/-! own rows: a found set goes to its place; the reference's sort does the same at the end -/
def insF (w : Int32 → Nat) (x : Int32) (f : Nat → Int32) : Nat → Nat → Int32
  | 0 => upd f 0 x
  | p + 1 => if w x < w (f p) then insF w x (upd f (p + 1) (f p)) p else upd f (p + 1) x
theorem insF_hi (w : Int32 → Nat) (x : Int32) : ∀ (p : Nat) (f : Nat → Int32) (i : Nat), p < i → insF w x f p i = f i
  | 0, f, i, h => upd_n (by omega)
  | p + 1, f, i, h => by
    rw [insF]
    by_cases e : w x < w (f p)
    · rw [if_pos e, insF_hi w x p _ i (by omega), upd_n (by omega)]
    · rw [if_neg e, upd_n (by omega)]
theorem insF_congr (w : Int32 → Nat) (x : Int32) : ∀ (p : Nat) (f g : Nat → Int32), (∀ i, i < p → f i = g i) → ∀ i, i ≤ p → insF w x f p i = insF w x g p i
  | 0, f, g, h, i, hi => by rw [show i = 0 by omega, insF, insF, upd_s, upd_s]
  | p + 1, f, g, h, i, hi => by
    rw [insF, insF, h p (by omega)]
    by_cases e : w x < w (g p)
    · rw [if_pos e, if_pos e]
      by_cases e2 : i = p + 1
      · rw [e2, insF_hi w x p _ _ (by omega), insF_hi w x p _ _ (by omega), upd_s, upd_s]
      · exact insF_congr w x p _ _ (fun j hj => by rw [upd_n (by omega), upd_n (by omega)]; exact h j (by omega)) i (by omega)
    · rw [if_neg e, if_neg e]
      by_cases e2 : i = p + 1
      · rw [e2, upd_s, upd_s]
      · rw [upd_n e2, upd_n e2]; exact h i (by omega)
theorem anyB_congr {f g : Nat → Bool} : ∀ {n : Nat}, (∀ i, i < n → f i = g i) → anyB f n = anyB g n
  | 0, _ => rfl
  | n + 1, h => by rw [anyB, anyB, anyB_congr (fun i hi => h i (by omega)), h n (by omega)]
theorem insF_any (w : Int32 → Nat) (x : Int32) (g : Int32 → Bool) : ∀ (p : Nat) (f : Nat → Int32), anyB (fun i => g (insF w x f p i)) (p + 1) = (anyB (fun i => g (f i)) p || g x)
  | 0, f => by
    show (false || g (upd f 0 x 0)) = (false || g x)
    rw [upd_s]
  | p + 1, f => by
    rw [anyB, insF]
    by_cases e : w x < w (f p)
    · simp only [if_pos e]
      rw [insF_any w x g p, insF_hi w x p _ _ (by omega), upd_s, anyB, anyB_congr (g := fun i => g (f i)) (fun i hi => by rw [upd_n (by omega)])]
      cases anyB (fun i => g (f i)) p <;> cases g x <;> cases g (f p) <;> rfl
    · simp only [if_neg e]
      rw [upd_s, anyB_congr (g := fun i => g (f i)) (fun i hi => by rw [upd_n (by omega)])]
/-- the row as it is after k found ones came in -/
def Fh (w : Int32 → Nat) (D : Nat → Int32) : Nat → Nat → Int32
  | 0 => D
  | k + 1 => insF w (D k) (Fh w D k) k
theorem Fh_congr (w : Int32 → Nat) {D D' : Nat → Int32} : ∀ (k : Nat), (∀ i, i < k → D i = D' i) → ∀ i, i < k → Fh w D k i = Fh w D' k i
  | 0, _, i, h => absurd h (by omega)
  | k + 1, h, i, hi => by
    rw [Fh, Fh, h k (by omega)]
    exact insF_congr w _ k _ _ (fun j hj => Fh_congr w k (fun i hi => h i (by omega)) j hj) i (by omega)
theorem Fh_any (w : Int32 → Nat) (D : Nat → Int32) (g : Int32 → Bool) : ∀ k, anyB (fun i => g (Fh w D k i)) k = anyB (fun i => g (D i)) k
  | 0 => rfl
  | k + 1 => by rw [Fh, insF_any, Fh_any w D g k]; rfl
theorem Fh_all (w : Int32 → Nat) (D : Nat → Int32) (P : Int32 → Prop) (k : Nat) (h : ∀ i, i < k → P (D i)) : ∀ i, i < k → P (Fh w D k i) := by
  intro i hi
  have h1 := Fh_any w D (fun x => @decide (¬ P x) (Classical.propDecidable _)) k
  have h2 : anyB (fun i => @decide (¬ P (D i)) (Classical.propDecidable _)) k = false := by
    cases e : anyB (fun i => @decide (¬ P (D i)) (Classical.propDecidable _)) k with
    | false => rfl
    | true =>
      obtain ⟨j, hj, q⟩ := anyB_t.mp e
      exact absurd (h j hj) (@of_decide_eq_true _ (Classical.propDecidable _) q)
  rw [h2] at h1
  rcases Classical.em (P (Fh w D k i)) with q | q
  · exact q
  · have : anyB (fun i => @decide (¬ P (Fh w D k i)) (Classical.propDecidable _)) k = true := anyB_t.mpr ⟨i, hi, @decide_eq_true _ (Classical.propDecidable _) q⟩
    rw [h1] at this; cases this
set_option maxHeartbeats 1000000 in
/-- the class puts a found set to its place -/
theorem addF_loop {w : Int32 → Nat} {x : Int32} (hw : ∀ y, w y < 1000) {fn : Nat} (hfn : fn < 30) : ∀ (p fu : Nat) (f g : Nat → Int32), p ≤ fn → p < fu → (∀ i, i < p → g i = nI (w (f i))) →
    ∃ g', mK4_add_L15 (nI (w x)) (mK4_add_A15 (nI fn) x (nI (w x))) fu (nI p) f g = some (nI (fn + 1), insF w x f p, g') ∧ (∀ i, i ≤ p → g' i = nI (w (insF w x f p i))) ∧ ∀ i, p < i → g' i = g i
  | 0, fu, f, g, hp, hf, hg => by
    obtain ⟨fu, rfl⟩ : ∃ q, fu = q + 1 := ⟨fu - 1, by omega⟩
    refine ⟨upd g 0 (nI (w x)), ?_, fun i hi => ?_, fun i hi => upd_n (by omega)⟩
    · show mK4_add_B15 (nI (w x)) (mK4_add_A15 (nI fn) x (nI (w x))) _ (nI 0) f g = _
      unfold mK4_add_B15
      rw [if_pos (by decide)]
      unfold mK4_add_A15
      rw [wrtN (by omega) (by decide), bd1v, wrtN (by omega) (by decide), bd1v, nIs, bd1v]
      rfl
    · rw [show i = 0 by omega, insF, upd_s, upd_s]
  | p + 1, fu, f, g, hp, hf, hg => by
    obtain ⟨fu, rfl⟩ : ∃ q, fu = q + 1 := ⟨fu - 1, by omega⟩
    have hx := hw x
    have hy := hw (f p)
    have hB : ∀ rc, mK4_add_B15 (nI (w x)) (mK4_add_A15 (nI fn) x (nI (w x))) rc (nI (p + 1)) f g = if w x < w (f p) then rc (nI p) (upd f (p + 1) (f p)) (upd g (p + 1) (g p)) else mK4_add_A15 (nI fn) x (nI (w x)) (nI (p + 1)) f g := by
      intro rc
      unfold mK4_add_B15
      rw [if_neg (nI_nle (by omega) (by omega)), nI_pred, rdN (by omega) (by decide), bd1v, hg p (by omega)]
      by_cases e : w x < w (f p)
      · rw [if_neg (fun q => by rw [nI_leI (by omega) (by omega)] at q; omega), if_pos e, rdN (by omega) (by decide), bd1v, wrtN (by omega) (by decide), bd1v, bd1v, wrtN (by omega) (by decide), bd1v, pk_m1, bd1v]
      · rw [if_pos ((nI_leI (by omega) (by omega)).mpr (by omega)), if_neg e]
    by_cases e : w x < w (f p)
    · obtain ⟨g', e1, e2, e3⟩ := addF_loop hw hfn p fu (upd f (p + 1) (f p)) (upd g (p + 1) (g p)) (by omega) (by omega) (fun i hi => by rw [upd_n (by omega), upd_n (by omega)]; exact hg i (by omega))
      refine ⟨g', ?_, fun i hi => ?_, fun i hi => by rw [e3 i (by omega), upd_n (by omega)]⟩
      · show mK4_add_B15 (nI (w x)) (mK4_add_A15 (nI fn) x (nI (w x))) _ (nI (p + 1)) f g = _
        rw [hB, if_pos e, e1, insF, if_pos e]
      · rw [insF, if_pos e]
        by_cases e4 : i = p + 1
        · rw [e4, e3 _ (by omega), upd_s, insF_hi w x p _ _ (by omega), upd_s]; exact hg p (by omega)
        · exact e2 i (by omega)
    · refine ⟨upd g (p + 1) (nI (w x)), ?_, fun i hi => ?_, fun i hi => upd_n (by omega)⟩
      · show mK4_add_B15 (nI (w x)) (mK4_add_A15 (nI fn) x (nI (w x))) _ (nI (p + 1)) f g = _
        rw [hB, if_neg e]
        unfold mK4_add_A15
        rw [wrtN (by omega) (by decide), bd1v, wrtN (by omega) (by decide), bd1v, nIs, bd1v, insF, if_neg e]
      · rw [insF, if_neg e]
        by_cases e4 : i = p + 1
        · rw [e4, upd_s, upd_s]
        · rw [upd_n e4, upd_n e4]; exact hg i (by omega)
theorem addF {w : Int32 → Nat} {x : Int32} (hw : ∀ y, w y < 1000) {fn : Nat} (hfn : fn < 30) (f g : Nat → Int32) (hg : ∀ i, i < fn → g i = nI (w (f i))) :
    ∃ g', mK4_add (nI fn) f g x (nI (w x)) = some (nI (fn + 1), insF w x f fn, g') ∧ ∀ i, i < fn + 1 → g' i = nI (w (insF w x f fn i)) := by
  obtain ⟨g', h1, h2, -⟩ := addF_loop hw hfn fn 5000 f g (Nat.le_refl _) (by omega) hg
  refine ⟨g', ?_, fun i hi => h2 i (by omega)⟩
  unfold mK4_add
  rw [if_pos (show nI fn < 30 by rw [nn30, nI_ltI (by omega) (by omega)]; exact hfn), h1]
set_option maxHeartbeats 1000000 in
/-- the reference's inner loop of the sort -/
theorem sortF_loop {we : Nat → Int32} {w : Int32 → Nat} {x : Int32} (hw : ∀ y, w y < 1000) (i0 : Nat) (hi0 : i0 < 30) (rc : Int32 → (Nat → Int32) → Option (Nat → Int32)) : ∀ (p fu : Nat) (f : Nat → Int32), p ≤ i0 → p < fu → (∀ i, i < p → mK5_weightOf we (f i) = some (nI (w (f i))) ∧ cntB (bt (f i)) 12 ≤ cntB (bt x) 12) →
    mK5_sort_L34 we (nI (100 * w x + cntB (bt x) 12)) (mK5_sort_A34 (nI i0) rc x) fu (nI p) f = rc (nI (i0 + 1)) (insF w x f p)
  | 0, fu, f, hp, hf, hg => by
    obtain ⟨fu, rfl⟩ : ∃ q, fu = q + 1 := ⟨fu - 1, by omega⟩
    show mK5_sort_B34 we _ (mK5_sort_A34 (nI i0) rc x) _ (nI 0) f = _
    unfold mK5_sort_B34
    rw [if_pos (by decide)]
    unfold mK5_sort_A34
    rw [wrtN (by omega) (by decide), bd1v, nIs, bd1v]
    rfl
  | p + 1, fu, f, hp, hf, hg => by
    obtain ⟨fu, rfl⟩ : ∃ q, fu = q + 1 := ⟨fu - 1, by omega⟩
    have hx := hw x
    have hy := hw (f p)
    have c1 := cntB_le (bt x) 12
    have c2 := cntB_le (bt (f p)) 12
    obtain ⟨g1, g2⟩ := hg p (by omega)
    have hB : ∀ rc', mK5_sort_B34 we (nI (100 * w x + cntB (bt x) 12)) (mK5_sort_A34 (nI i0) rc x) rc' (nI (p + 1)) f = if w x < w (f p) then rc' (nI p) (upd f (p + 1) (f p)) else mK5_sort_A34 (nI i0) rc x (nI (p + 1)) f := by
      intro rc'
      unfold mK5_sort_B34
      rw [if_neg (nI_nle (by omega) (by omega)), nI_pred, rdN (by omega) (by decide), bd1v, g1, bd1v, bd1v, sizeR, bd1v, nn100, nI_mul, nI_add]
      by_cases e : w x < w (f p)
      · rw [if_neg (fun q => by rw [nI_leI (by omega) (by omega)] at q; omega), if_pos e, bd1v, wrtN (by omega) (by decide), bd1v, pk_m1, bd1v]
      · rw [if_pos ((nI_leI (by omega) (by omega)).mpr (by omega)), if_neg e]
    show mK5_sort_B34 we _ (mK5_sort_A34 (nI i0) rc x) _ (nI (p + 1)) f = _
    rw [hB, insF]
    by_cases e : w x < w (f p)
    · rw [if_pos e, if_pos e]
      exact sortF_loop hw i0 hi0 rc p fu (upd f (p + 1) (f p)) (by omega) (by omega) (fun i hi => by rw [upd_n (by omega)]; exact hg i (by omega))
    · rw [if_neg e, if_neg e]
      unfold mK5_sort_A34
      rw [wrtN (by omega) (by decide), bd1v, nIs, bd1v]
set_option maxHeartbeats 1000000 in
theorem sortF {we D : Nat → Int32} {w : Int32 → Nat} (hw : ∀ y, w y < 1000) {k : Nat} (hk : k ≤ 30) (hg : ∀ i, i < k → mK5_weightOf we (D i) = some (nI (w (D i)))) (hs : ∀ i j, i < j → j < k → cntB (bt (D i)) 12 ≤ cntB (bt (D j)) 12) :
    ∃ f, mK5_sort (nI k) we D = some f ∧ ∀ i, i < k → f i = Fh w D k i := by
  unfold mK5_sort
  rcases Nat.eq_zero_or_pos k with e | e
  · subst e
    refine ⟨D, ?_, fun i hi => absurd hi (by omega)⟩
    show mK5_sort_B2 (nI 0) we mK5_sort_A2 _ 1 D = _
    unfold mK5_sort_B2
    rw [if_pos (by decide)]
    rfl
  · refine lpU (S := Nat → Int32) (fun f i st => mK5_sort_L2 (nI k) we mK5_sort_A2 f (nI (i + 1)) st) (fun o => ∃ f, o = some f ∧ ∀ i, i < k → f i = Fh w D k i) (k - 1) (fun i st => (∀ j, j < i + 1 → st j = Fh w D (i + 1) j) ∧ ∀ j, i + 1 ≤ j → j < k → st j = D j) ?_ ?_ 5000 0 D (by omega) (by omega) ⟨fun j hj => by rw [show j = 0 by omega, Fh, insF, upd_s], fun j _ _ => rfl⟩
    · rintro f st ⟨h1, h2⟩
      refine ⟨st, ?_, fun i hi => ?_⟩
      · show mK5_sort_B2 (nI k) we mK5_sort_A2 _ (nI (k - 1 + 1)) st = _
        unfold mK5_sort_B2
        rw [if_pos ((nI_leI (by omega) (by omega)).mpr (by omega))]
        rfl
      · have := h1 i (by omega)
        rw [show k - 1 + 1 = k by omega] at this
        exact this
    · rintro f i st hi ⟨h1, h2⟩
      right
      have hx : st (i + 1) = D (i + 1) := h2 (i + 1) (by omega) (by omega)
      have hlt : i + 1 < k := by omega
      refine ⟨insF w (D (i + 1)) st (i + 1), ⟨fun j hj => ?_, fun j a b => ?_⟩, ?_⟩
      · rw [Fh]
        exact insF_congr w _ (i + 1) _ _ h1 j (by omega)
      · rw [insF_hi w _ _ _ _ (by omega)]; exact h2 j (by omega) b
      · show mK5_sort_B2 (nI k) we mK5_sort_A2 (mK5_sort_L2 (nI k) we mK5_sort_A2 f) (nI (i + 1)) st = _
        unfold mK5_sort_B2
        rw [if_neg (fun q => by rw [nI_leI (by omega) (by omega)] at q; omega), rdN (by omega) (by decide), bd1v, hx, hg _ hlt, bd1v, sizeR, bd1v, nn100, nI_mul, nI_add, bd1v]
        refine sortF_loop hw (i + 1) (by omega) _ (i + 1) 5000 st (by omega) (by omega) (fun j hj => ?_)
        rw [h1 j hj]
        exact Fh_all w D (fun y => mK5_weightOf we y = some (nI (w y)) ∧ cntB (bt y) 12 ≤ cntB (bt (D (i + 1))) 12) (i + 1) (fun q hq => ⟨hg q (by omega), hs q (i + 1) hq hlt⟩) j hj
