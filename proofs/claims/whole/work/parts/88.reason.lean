/-! own rows: reasons: how far a class lies below another; the shortest way by the least steps -/
def Wd (th : Nat → Bool) (c : Nat) : Nat → Nat → Bool
  | 0, x => decide (x = c)
  | d + 1, x => Wd th c d x || anyB (fun y => th (72 * x + 12 + y) && Wd th c d y) 12
theorem Wd_le {th : Nat → Bool} {c x d : Nat} : ∀ {k : Nat}, Wd th c d x = true → Wd th c (d + k) x = true
  | 0, h => h
  | k + 1, h => by
    show (Wd th c (d + k) x || _) = true
    rw [Wd_le (k := k) h, Bool.true_or]
theorem Wd_mono {th : Nat → Bool} {c x d e : Nat} (hde : d ≤ e) (h : Wd th c d x = true) : Wd th c e x = true := by
  have := Wd_le (k := e - d) h
  rw [show d + (e - d) = e by omega] at this
  exact this
theorem Wd_edge {th : Nat → Bool} {c x y d : Nat} (hy : y < 12) (he : th (72 * x + 12 + y) = true) (h : Wd th c d y = true) : Wd th c (d + 1) x = true := by
  show (Wd th c d x || anyB (fun y => th (72 * x + 12 + y) && Wd th c d y) 12) = true
  rw [anyB_t.mpr ⟨y, hy, by rw [he, h]; rfl⟩, Bool.or_true]
theorem Wd_inv {th : Nat → Bool} {c x d : Nat} (h : Wd th c (d + 1) x = true) : Wd th c d x = true ∨ ∃ y, y < 12 ∧ th (72 * x + 12 + y) = true ∧ Wd th c d y = true := by
  have h' : (Wd th c d x || anyB (fun y => th (72 * x + 12 + y) && Wd th c d y) 12) = true := h
  rw [Bool.or_eq_true, anyB_t] at h'
  rcases h' with q | ⟨y, hy, q⟩
  · exact Or.inl q
  · rw [Bool.and_eq_true] at q
    exact Or.inr ⟨y, hy, q.1, q.2⟩
theorem Wd_stable {th : Nat → Bool} {c e : Nat} (h : ∀ x, x < 12 → Wd th c (e + 1) x = Wd th c e x) : ∀ k x, x < 12 → Wd th c (e + k) x = Wd th c e x
  | 0, x, _ => rfl
  | k + 1, x, hx => by
    rw [← h x hx]
    show (Wd th c (e + k) x || anyB (fun y => th (72 * x + 12 + y) && Wd th c (e + k) y) 12) = (Wd th c e x || anyB (fun y => th (72 * x + 12 + y) && Wd th c e y) 12)
    rw [Wd_stable h k x hx, anyB_congr (g := fun y => th (72 * x + 12 + y) && Wd th c e y) (fun y hy => by rw [Wd_stable h k y hy])]
theorem Wd_grow {th : Nat → Bool} {c : Nat} (hc : c < 12) : ∀ d, (∃ e, e ≤ d ∧ ∀ x, x < 12 → Wd th c (e + 1) x = Wd th c e x) ∨ d + 2 ≤ cntB (Wd th c (d + 1)) 12 := by
  have step : ∀ d, (∀ x, x < 12 → Wd th c (d + 1) x = Wd th c d x) ∨ cntB (Wd th c d) 12 + 1 ≤ cntB (Wd th c (d + 1)) 12 := by
    intro d
    by_cases e : cntB (Wd th c (d + 1)) 12 ≤ cntB (Wd th c d) 12
    · left
      exact cntB_same (fun i _ h => Wd_mono (by omega) h) e
    · right; omega
  intro d
  induction d with
  | zero =>
    rcases step 0 with q | q
    · exact Or.inl ⟨0, by omega, q⟩
    · right
      have := cntB_pos (f := Wd th c 0) (n := 12) (i := c) hc (decide_eq_true rfl)
      omega
  | succ d ih =>
    rcases ih with ⟨e, h1, h2⟩ | q
    · exact Or.inl ⟨e, by omega, h2⟩
    · rcases step (d + 1) with q2 | q2
      · exact Or.inl ⟨d + 1, by omega, q2⟩
      · right; omega
theorem Wd_sat {th : Nat → Bool} {c : Nat} (hc : c < 12) {d x : Nat} (hx : x < 12) (h : Wd th c d x = true) : Wd th c 11 x = true := by
  rcases Wd_grow (th := th) hc 11 with ⟨e, h1, h2⟩ | q
  · have h3 := Wd_le (k := e) h
    rw [Nat.add_comm, Wd_stable h2 d x hx] at h3
    exact Wd_mono h1 h3
  · have := cntB_le (Wd th c (11 + 1)) 12
    omega
/-- what the reference's steps tell, when k rounds are done -/
def SJ (th : Nat → Bool) (c k : Nat) (st : Nat → Int32) (s : Nat → Nat) : Prop := (∀ x, x < 12 → st x = nI (s x) ∧ s x ≤ 99) ∧ (∀ x, x < 12 → s x < 99 → Wd th c (s x) x = true) ∧ ∀ x, x < 12 → ∀ d, d ≤ k → Wd th c d x = true → s x ≤ d
theorem codeT1 {s o : Nat} : mK5_codeOf (nI s) 1 (nI o) = some (nI (72 * s + 12 + o)) := codeT (s := s) (p := 1) (o := o)
theorem codeT0 {s o : Nat} : mK5_codeOf (nI s) 0 (nI o) = some (nI (72 * s + o)) := codeT (s := s) (p := 0) (o := o)
theorem SJ_dec {th : Nat → Bool} {c k : Nat} {st : Nat → Int32} {s : Nat → Nat} (h : SJ th c k st s) {a b : Nat} (ha : a < 12) (hb : b < 12) (he : th (72 * a + 12 + b) = true) (hlt : s b + 1 < s a) : SJ th c k (upd st a (nI (s b + 1))) (fun x => if x = a then s b + 1 else s x) := by
  obtain ⟨h1, h2, h3⟩ := h
  have hsa := (h1 a ha).2
  refine ⟨fun x hx => ?_, fun x hx hs => ?_, fun x hx d hd hw => ?_⟩
  · show upd st a (nI (s b + 1)) x = nI (if x = a then s b + 1 else s x) ∧ (if x = a then s b + 1 else s x) ≤ 99
    by_cases e : x = a
    · subst e; rw [upd_s, if_pos rfl]; exact ⟨rfl, by omega⟩
    · rw [upd_n e, if_neg e]; exact h1 x hx
  · have hs : (if x = a then s b + 1 else s x) < 99 := hs
    show Wd th c (if x = a then s b + 1 else s x) x = true
    by_cases e : x = a
    · subst e; rw [if_pos rfl]; exact Wd_edge hb he (h2 b hb (by omega))
    · rw [if_neg e] at hs ⊢; exact h2 x hx hs
  · have := h3 x hx d hd hw
    show (if x = a then s b + 1 else s x) ≤ d
    by_cases e : x = a
    · subst e; rw [if_pos rfl]; omega
    · rw [if_neg e]; exact this
set_option maxHeartbeats 2000000 in
theorem mRow {there : Nat → Int32} {th : Nat → Bool} (hb : BAr there th 864) {c k a : Nat} (ha : a < 12) (rc : Int32 → (Nat → Int32) → Option (Nat → Int32)) (st : Nat → Int32) (h : ∃ s, SJ th c k st s ∧ ∀ x, x < a → Wd th c (k + 1) x = true → s x ≤ k + 1) :
    ∃ st', mK5_measure_L50 there (nI a) (mK5_measure_A50 (nI a) rc) 5000 0 st = rc (nI (a + 1)) st' ∧ ∃ s, SJ th c k st' s ∧ ∀ x, x < a + 1 → Wd th c (k + 1) x = true → s x ≤ k + 1 := by
  refine lpU (S := Nat → Int32) (fun f j st => mK5_measure_L50 there (nI a) (mK5_measure_A50 (nI a) rc) f (nI j) st) (fun o => ∃ st', o = rc (nI (a + 1)) st' ∧ ∃ s, SJ th c k st' s ∧ ∀ x, x < a + 1 → Wd th c (k + 1) x = true → s x ≤ k + 1) 12 (fun j st => ∃ s, SJ th c k st s ∧ (∀ x, x < a → Wd th c (k + 1) x = true → s x ≤ k + 1) ∧ ∀ y, y < j → th (72 * a + 12 + y) = true → Wd th c k y = true → s a ≤ k + 1) ?_ ?_ 5000 0 st (by omega) (by omega) ?_
  · rintro f st ⟨s, h1, h2, h3⟩
    refine ⟨st, ?_, s, h1, fun x hx hw => ?_⟩
    · show mK5_measure_B50 there (nI a) (mK5_measure_A50 (nI a) rc) _ (nI 12) st = _
      unfold mK5_measure_B50
      rw [if_pos (by decide)]
      unfold mK5_measure_A50
      rw [nIs, bd1v]
    · by_cases e : x = a
      · subst e
        rcases Wd_inv hw with q | ⟨y, hy, q1, q2⟩
        · have := h1.2.2 x ha k (Nat.le_refl _) q; omega
        · exact h3 y hy q1 q2
      · exact h2 x (by omega) hw
  · rintro f j st hj ⟨s, h1, h2, h3⟩
    right
    have hsa := h1.1 a ha
    have hsj := h1.1 j hj
    have hB : mK5_measure_L50 there (nI a) (mK5_measure_A50 (nI a) rc) (f + 1) (nI j) st = if th (72 * a + 12 + j) = true then (if s a ≤ s j + 1 then mK5_measure_L50 there (nI a) (mK5_measure_A50 (nI a) rc) f (nI (j + 1)) st else mK5_measure_L50 there (nI a) (mK5_measure_A50 (nI a) rc) f (nI (j + 1)) (upd st a (nI (s j + 1)))) else mK5_measure_L50 there (nI a) (mK5_measure_A50 (nI a) rc) f (nI (j + 1)) st := by
      show mK5_measure_B50 there (nI a) (mK5_measure_A50 (nI a) rc) (mK5_measure_L50 there (nI a) (mK5_measure_A50 (nI a) rc) f) (nI j) st = _
      unfold mK5_measure_B50
      rw [if_neg (fun w => by rw [le12 (by omega)] at w; omega), codeT1, bd1v, rdN (by omega) (by decide), bd1v, hb _ (by omega), ifbI, nIs, bd1v, rdN hj (by decide), bd1v, rdN ha (by decide), bd1v, hsa.1, hsj.1, nIs, bd1v, nIs, wrtN ha (by decide), bd1v, bd1v]
      by_cases e : s a ≤ s j + 1
      · rw [if_pos e, if_pos ((nI_leI (by omega) (by omega)).mpr e)]
      · rw [if_neg e, if_neg (fun q => e ((nI_leI (by omega) (by omega)).mp q))]
    rw [hB]
    by_cases e1 : th (72 * a + 12 + j) = true
    · rw [if_pos e1]
      by_cases e2 : s a ≤ s j + 1
      · rw [if_pos e2]
        refine ⟨st, ⟨s, h1, h2, fun y hy q1 q2 => ?_⟩, rfl⟩
        by_cases e3 : y = j
        · subst e3
          have := h1.2.2 y hj k (Nat.le_refl _) q2
          omega
        · exact h3 y (by omega) q1 q2
      · rw [if_neg e2]
        refine ⟨_, ⟨_, SJ_dec h1 ha hj e1 (by omega), fun x hx hw => ?_, fun y hy q1 q2 => ?_⟩, rfl⟩
        · have := h2 x hx hw
          show (if x = a then s j + 1 else s x) ≤ k + 1
          rw [if_neg (by omega)]
          exact this
        · show (if a = a then s j + 1 else s a) ≤ k + 1
          rw [if_pos rfl]
          by_cases e3 : y = j
          · subst e3
            have := h1.2.2 y hj k (Nat.le_refl _) q2
            omega
          · have := h3 y (by omega) q1 q2
            omega
    · rw [if_neg e1]
      refine ⟨st, ⟨s, h1, h2, fun y hy q1 q2 => ?_⟩, rfl⟩
      by_cases e3 : y = j
      · subst e3; exact absurd q1 e1
      · exact h3 y (by omega) q1 q2
  · obtain ⟨s, h1, h2⟩ := h
    exact ⟨s, h1, h2, fun y hy => absurd hy (by omega)⟩
set_option maxHeartbeats 1000000 in
theorem mRound {there : Nat → Int32} {th : Nat → Bool} (hb : BAr there th 864) {c k : Nat} (rc : Int32 → (Nat → Int32) → Option (Nat → Int32)) (st : Nat → Int32) (h : ∃ s, SJ th c k st s) :
    ∃ st', mK5_measure_L41 there (mK5_measure_A41 (nI k) rc) 5000 0 st = rc (nI (k + 1)) st' ∧ ∃ s, SJ th c (k + 1) st' s := by
  refine lpU (S := Nat → Int32) (fun f a st => mK5_measure_L41 there (mK5_measure_A41 (nI k) rc) f (nI a) st) (fun o => ∃ st', o = rc (nI (k + 1)) st' ∧ ∃ s, SJ th c (k + 1) st' s) 12 (fun a st => ∃ s, SJ th c k st s ∧ ∀ x, x < a → Wd th c (k + 1) x = true → s x ≤ k + 1) ?_ ?_ 5000 0 st (by omega) (by omega) ?_
  · rintro f st ⟨s, h1, h2⟩
    refine ⟨st, ?_, s, h1.1, h1.2.1, fun x hx d hd hw => ?_⟩
    · show mK5_measure_B41 there (mK5_measure_A41 (nI k) rc) _ (nI 12) st = _
      unfold mK5_measure_B41
      rw [if_pos (by decide)]
      unfold mK5_measure_A41
      rw [nIs, bd1v]
    · by_cases e : d = k + 1
      · subst e; exact h2 x hx hw
      · exact h1.2.2 x hx d (by omega) hw
  · rintro f a st ha hJ
    right
    obtain ⟨st', e1, e2⟩ := mRow hb ha (mK5_measure_L41 there (mK5_measure_A41 (nI k) rc) f) st hJ
    refine ⟨st', e2, ?_⟩
    show mK5_measure_B41 there (mK5_measure_A41 (nI k) rc) (mK5_measure_L41 there (mK5_measure_A41 (nI k) rc) f) (nI a) st = _
    unfold mK5_measure_B41
    rw [if_neg (fun w => by rw [le12 (by omega)] at w; omega), e1]
  · obtain ⟨s, h1⟩ := h
    exact ⟨s, h1, fun x hx => absurd hx (by omega)⟩
set_option maxHeartbeats 1000000 in
theorem measureR {there : Nat → Int32} {th : Nat → Bool} (hb : BAr there th 864) {c : Nat} (hc : c < 12) (st : Nat → Int32) : ∃ st' s, mK5_measure there st (nI c) = some st' ∧ SJ th c 12 st' s := by
  have h1 : ∃ st1, mK5_measure there st (nI c) = mK5_measure_A2 there st1 ∧ ∃ s, SJ th c 0 st1 s := by
    unfold mK5_measure
    refine lpU (S := Nat → Int32) (fun f i st => mK5_measure_L2 (nI c) (mK5_measure_A2 there) f (nI i) st) (fun o => ∃ st1, o = mK5_measure_A2 there st1 ∧ ∃ s, SJ th c 0 st1 s) 12 (fun i st => ∀ x, x < i → st x = nI (if x = c then 0 else 99)) ?_ ?_ 5000 0 st (by omega) (by omega) (fun x hx => absurd hx (by omega))
    · intro f st hJ
      refine ⟨st, ?_, fun x => if x = c then 0 else 99, fun x hx => ⟨hJ x hx, by show (if x = c then 0 else 99) ≤ 99; split <;> omega⟩, fun x hx hs => ?_, fun x hx d hd hw => ?_⟩
      · show mK5_measure_B2 (nI c) (mK5_measure_A2 there) _ (nI 12) st = _
        unfold mK5_measure_B2
        rw [if_pos (by decide)]
      · have hs : (if x = c then 0 else 99) < 99 := hs
        show Wd th c (if x = c then 0 else 99) x = true
        by_cases e : x = c
        · rw [if_pos e]; exact decide_eq_true e
        · rw [if_neg e] at hs; omega
      · rw [show d = 0 by omega] at hw
        show (if x = c then 0 else 99) ≤ d
        rw [if_pos (of_decide_eq_true hw)]
        omega
    · intro f i st hi hJ
      right
      refine ⟨upd st i (nI (if i = c then 0 else 99)), fun x hx => ?_, ?_⟩
      · by_cases e : x = i
        · subst e; rw [upd_s]
        · rw [upd_n e]; exact hJ x (by omega)
      · show mK5_measure_B2 (nI c) (mK5_measure_A2 there) (mK5_measure_L2 (nI c) (mK5_measure_A2 there) f) (nI i) st = _
        unfold mK5_measure_B2
        rw [if_neg (fun w => by rw [le12 (by omega)] at w; omega), wrtN hi (by decide), wrtN hi (by decide), bd1v, bd1v, nIs, bd1v]
        by_cases e : i = c
        · subst e; rw [if_pos rfl, if_pos rfl]; rfl
        · rw [if_neg e, if_neg (fun q => e ((nI_eq (by omega) (by omega)).mp q))]; rfl
  obtain ⟨st1, e1, h2⟩ := h1
  rw [e1]
  unfold mK5_measure_A2
  refine lpU (S := Nat → Int32) (fun f k st => mK5_measure_L33 there mK5_measure_A33 f (nI k) st) (fun o => ∃ st' s, o = some st' ∧ SJ th c 12 st' s) 12 (fun k st => ∃ s, SJ th c k st s) ?_ ?_ 5000 0 st1 (by omega) (by omega) h2
  · rintro f st ⟨s, hs⟩
    refine ⟨st, s, ?_, hs⟩
    show mK5_measure_B33 there mK5_measure_A33 _ (nI 12) st = _
    unfold mK5_measure_B33
    rw [if_pos (by decide)]
    rfl
  · rintro f k st hk hJ
    right
    obtain ⟨st', e2, e3⟩ := mRound hb (mK5_measure_L33 there mK5_measure_A33 f) st hJ
    refine ⟨st', e3, ?_⟩
    show mK5_measure_B33 there mK5_measure_A33 (mK5_measure_L33 there mK5_measure_A33 f) (nI k) st = _
    unfold mK5_measure_B33
    rw [if_neg (fun w => by rw [le12 (by omega)] at w; omega), e2]
/-! what the steps are -/
theorem SJ_W {th : Nat → Bool} {c : Nat} {st : Nat → Int32} {s : Nat → Nat} (h : SJ th c 12 st s) {x d : Nat} (hx : x < 12) (hd : d ≤ 12) : Wd th c d x = decide (s x ≤ d) := by
  by_cases e : s x ≤ d
  · rw [decide_eq_true e]; exact Wd_mono e (h.2.1 x hx (by omega))
  · rw [decide_eq_false e]
    cases q : Wd th c d x with
    | false => rfl
    | true => exact absurd (h.2.2 x hx d hd q) e
theorem SJ_11 {th : Nat → Bool} {c : Nat} (hc : c < 12) {st : Nat → Int32} {s : Nat → Nat} (h : SJ th c 12 st s) {x : Nat} (hx : x < 12) (hs : s x < 99) : s x ≤ 11 := h.2.2 x hx 11 (by omega) (Wd_sat hc hx (h.2.1 x hx hs))
theorem SJ_tri {th : Nat → Bool} {c : Nat} (hc : c < 12) {st : Nat → Int32} {s : Nat → Nat} (h : SJ th c 12 st s) {x y : Nat} (hx : x < 12) (hy : y < 12) (he : th (72 * x + 12 + y) = true) : s x ≤ s y + 1 := by
  have h1 := (h.1 x hx).2
  by_cases e : s y < 99
  · have h2 := SJ_11 hc h hy e
    exact h.2.2 x hx (s y + 1) (by omega) (Wd_edge hy he (h.2.1 y hy e))
  · omega
theorem SJ_ex {th : Nat → Bool} {c : Nat} {st : Nat → Int32} {s : Nat → Nat} (h : SJ th c 12 st s) {x : Nat} (hx : x < 12) (h1 : 1 ≤ s x) (h2 : s x ≤ 11) : ∃ y, y < 12 ∧ th (72 * x + 12 + y) = true ∧ s y ≤ s x - 1 := by
  have hw := h.2.1 x hx (by omega)
  obtain ⟨e, he⟩ : ∃ e, s x = e + 1 := ⟨s x - 1, by omega⟩
  rw [he] at hw
  rcases Wd_inv hw with q | ⟨y, hy, q1, q2⟩
  · have := h.2.2 x hx e (by omega) q; omega
  · have := h.2.2 y hy e (by omega) q2
    exact ⟨y, hy, q1, by omega⟩
/-! the class's sets of those within d steps -/
theorem objs1 {ob : Nat → Int32} {s : Nat} (hs : s < 12) : mK1_objectsOf ob (nI s) 1 = some (ob (6 * s + 1)) := objs (p := 1) hs (by omega)
theorem objs0 {ob : Nat → Int32} {s : Nat} (hs : s < 12) : mK1_objectsOf ob (nI s) 0 = some (ob (6 * s + 0)) := objs (p := 0) hs (by omega)
theorem and0 {x z : Int32} (hz : sm z) : (x &&& z) = 0 ↔ ∀ i, i < 12 → (bt x i && bt z i) = false := by
  have hs : sm (x &&& z) := fun i a b => by rw [b_and, hz i a b, Bool.and_false]
  rw [eq0_sm hs]
  constructor
  · intro h i hi; rw [← b_and]; exact h i hi
  · intro h i hi; rw [b_and]; exact h i hi
set_option maxHeartbeats 1000000 in
theorem leadC {ob : Nat → Int32} {th : Nat → Bool} (h : OBr ob th) {z : Int32} (hz : sm z) : ∃ y, mK1_leadingInto ob z = some y ∧ sm y ∧ ∀ x, x < 12 → bt y x = anyB (fun b => th (72 * x + 12 + b) && bt z b) 12 := by
  unfold mK1_leadingInto
  refine lpU (S := Int32) (fun f i st => mK1_leadingInto_L4 ob z mK1_leadingInto_A4 f st (nI i)) (fun o => ∃ y, o = some y ∧ sm y ∧ ∀ x, x < 12 → bt y x = anyB (fun b => th (72 * x + 12 + b) && bt z b) 12) 12 (fun i st => sm st ∧ ∀ x, x < 12 → bt st x = (decide (x < i) && anyB (fun b => th (72 * x + 12 + b) && bt z b) 12)) ?_ ?_ 5000 0 0 (by omega) (by omega) ⟨sm_0, fun x _ => by rw [b_0, decide_eq_false (by omega)]; rfl⟩
  · rintro f st ⟨h1, h2⟩
    refine ⟨st, ?_, h1, fun x hx => by rw [h2 x hx, decide_eq_true hx, Bool.true_and]⟩
    show mK1_leadingInto_B4 ob z mK1_leadingInto_A4 _ st (nI 12) = _
    unfold mK1_leadingInto_B4
    rw [if_pos (by decide)]
    rfl
  · rintro f i st hi ⟨h1, h2⟩
    right
    have hbits : ∀ b, b < 12 → bt (ob (6 * i + 1)) b = th (72 * i + 12 + b) := fun b hb => OBr_at (p := 1) h hi (by omega) hb
    by_cases e : (ob (6 * i + 1) &&& z) = 0
    · refine ⟨st, ⟨h1, fun x hx => ?_⟩, ?_⟩
      · rw [h2 x hx]
        by_cases e2 : x = i
        · subst e2
          rw [decide_eq_false (by omega), decide_eq_true (by omega), Bool.false_and, Bool.true_and]
          cases q : anyB (fun b => th (72 * x + 12 + b) && bt z b) 12 with
          | false => rfl
          | true =>
            obtain ⟨b, hb, q2⟩ := anyB_t.mp q
            have := (and0 hz).mp e b hb
            rw [hbits b hb] at this
            rw [this] at q2; cases q2
        · by_cases e3 : x < i
          · rw [decide_eq_true e3, decide_eq_true (by omega)]
          · rw [decide_eq_false e3, decide_eq_false (by omega)]
      · show mK1_leadingInto_B4 ob z mK1_leadingInto_A4 (mK1_leadingInto_L4 ob z mK1_leadingInto_A4 f) st (nI i) = _
        unfold mK1_leadingInto_B4
        rw [if_neg (fun w => by rw [le12 (by omega)] at w; omega), objs1 hi, bd1v, if_pos e, nIs, bd1v]
    · refine ⟨st ||| ((1 : Int32) <<< (nI i &&& 31)), ⟨sm_or h1 (sm_one hi), fun x hx => ?_⟩, ?_⟩
      · rw [b_or, h2 x hx, bt_one (by omega) (by omega)]
        by_cases e2 : x = i
        · subst e2
          rw [decide_eq_true rfl, Bool.or_true, decide_eq_true (by omega), Bool.true_and]
          cases q : anyB (fun b => th (72 * x + 12 + b) && bt z b) 12 with
          | true => rfl
          | false =>
            refine absurd ((and0 hz).mpr fun b hb => ?_) e
            rw [hbits b hb]
            cases q2 : (th (72 * x + 12 + b) && bt z b) with
            | false => rfl
            | true => rw [anyB_t.mpr ⟨b, hb, q2⟩] at q; cases q
        · rw [decide_eq_false e2, Bool.or_false]
          by_cases e3 : x < i
          · rw [decide_eq_true e3, decide_eq_true (by omega)]
          · rw [decide_eq_false e3, decide_eq_false (by omega)]
      · show mK1_leadingInto_B4 ob z mK1_leadingInto_A4 (mK1_leadingInto_L4 ob z mK1_leadingInto_A4 f) st (nI i) = _
        unfold mK1_leadingInto_B4
        rw [if_neg (fun w => by rw [le12 (by omega)] at w; omega), objs1 hi, bd1v, if_neg e, bd1v, nIs, bd1v]
def WS (th : Nat → Bool) (c d : Nat) (z : Int32) : Prop := sm z ∧ ∀ x, x < 12 → bt z x = Wd th c d x
set_option maxHeartbeats 1000000 in
theorem fewC {ob : Nat → Int32} {th : Nat → Bool} (h : OBr ob th) {nd c : Nat} (hnd : nd < 12) (hc : c < 12) (wi : Nat → Int32) :
    (∃ d0 wi', d0 ≤ 11 ∧ mK1_fewestBelows ob wi (nI nd) (nI c) = some (nI d0, wi') ∧ (∀ d, d ≤ d0 → WS th c d (wi' d)) ∧ (∃ t, t < 12 ∧ th (72 * nd + t) = true ∧ Wd th c d0 t = true) ∧ ∀ d, d < d0 → ∀ t, t < 12 → th (72 * nd + t) = true → Wd th c d t = false)
    ∨ (∃ wi', mK1_fewestBelows ob wi (nI nd) (nI c) = some (-1, wi') ∧ ∀ d, d < 12 → ∀ t, t < 12 → th (72 * nd + t) = true → Wd th c d t = false) := by
  unfold mK1_fewestBelows
  rw [objs0 hnd, bd1v, bd1v]
  have hty : ∀ t, t < 12 → bt (ob (6 * nd + 0)) t = th (72 * nd + t) := fun t ht => OBr_at (p := 0) h hnd (by omega) ht
  generalize ob (6 * nd + 0) = ty at hty
  refine lpU (S := Int32 × (Nat → Int32)) (fun f i st => mK1_fewestBelows_L15 ob ty mK1_fewestBelows_A15 f st.1 (nI i) st.2) (fun o => (∃ d0 wi', d0 ≤ 11 ∧ o = some (nI d0, wi') ∧ (∀ d, d ≤ d0 → WS th c d (wi' d)) ∧ (∃ t, t < 12 ∧ th (72 * nd + t) = true ∧ Wd th c d0 t = true) ∧ ∀ d, d < d0 → ∀ t, t < 12 → th (72 * nd + t) = true → Wd th c d t = false) ∨ (∃ wi', o = some (-1, wi') ∧ ∀ d, d < 12 → ∀ t, t < 12 → th (72 * nd + t) = true → Wd th c d t = false)) 12 (fun i st => WS th c i st.1 ∧ (∀ d, d < i → WS th c d (st.2 d)) ∧ ∀ d, d < i → ∀ t, t < 12 → th (72 * nd + t) = true → Wd th c d t = false) ?_ ?_ 5000 0 (_, wi) (by omega) (by omega) ⟨⟨sm_one hc, fun x hx => bt_one (by omega) (by omega)⟩, fun d hd => absurd hd (by omega), fun d hd => absurd hd (by omega)⟩
  · rintro f ⟨z, w⟩ ⟨h1, h2, h3⟩
    refine Or.inr ⟨w, ?_, h3⟩
    show mK1_fewestBelows_B15 ob ty mK1_fewestBelows_A15 _ z (nI 12) w = _
    unfold mK1_fewestBelows_B15
    rw [if_pos (by decide)]
    rfl
  · rintro f i ⟨z, w⟩ hi ⟨h1, h2, h3⟩
    have hW : ∀ d, d < i + 1 → WS th c d (upd w i z d) := fun d hd => by
      by_cases e : d = i
      · subst e; rw [upd_s]; exact h1
      · rw [upd_n e]; exact h2 d (by omega)
    have hB : mK1_fewestBelows_L15 ob ty mK1_fewestBelows_A15 (f + 1) z (nI i) w = if (ty &&& z) = 0 then (bd1 (mK1_leadingInto ob z) fun x5 => mK1_fewestBelows_L15 ob ty mK1_fewestBelows_A15 f (z ||| x5) (nI (i + 1)) (upd w i z)) else some (nI i, upd w i z) := by
      show mK1_fewestBelows_B15 ob ty mK1_fewestBelows_A15 (mK1_fewestBelows_L15 ob ty mK1_fewestBelows_A15 f) z (nI i) w = _
      unfold mK1_fewestBelows_B15
      rw [if_neg (fun w => by rw [le12 (by omega)] at w; omega), wrtN hi (by decide), bd1v, nIs]
      rfl
    show (_ ∨ _) ∨ _
    by_cases e : (ty &&& z) = 0
    · right
      obtain ⟨y, e1, e2, e3⟩ := leadC h h1.1
      refine ⟨(z ||| y, upd w i z), ⟨⟨sm_or h1.1 e2, fun x hx => ?_⟩, hW, fun d hd t ht q => ?_⟩, ?_⟩
      · show bt (z ||| y) x = _
        rw [b_or, h1.2 x hx, e3 x hx]
        show _ = (Wd th c i x || anyB (fun y => th (72 * x + 12 + y) && Wd th c i y) 12)
        rw [anyB_congr (g := fun y => th (72 * x + 12 + y) && Wd th c i y) (fun y hy => by rw [h1.2 y hy])]
      · by_cases e4 : d = i
        · subst e4
          have := (and0 h1.1).mp e t ht
          rw [hty t ht, q, Bool.true_and, h1.2 t ht] at this
          exact this
        · exact h3 d (by omega) t ht q
      · show mK1_fewestBelows_L15 ob ty mK1_fewestBelows_A15 (f + 1) z (nI i) w = _
        rw [hB, if_pos e, e1, bd1v]
    · left
      left
      refine ⟨i, upd w i z, by omega, ?_, fun d hd => hW d (by omega), ?_, h3⟩
      · show mK1_fewestBelows_L15 ob ty mK1_fewestBelows_A15 (f + 1) z (nI i) w = _
        rw [hB, if_neg e]
      · rcases Classical.em (∃ t, t < 12 ∧ th (72 * nd + t) = true ∧ Wd th c i t = true) with q | q
        · exact q
        · refine absurd ((and0 h1.1).mpr fun t ht => ?_) e
          rw [hty t ht, h1.2 t ht]
          cases q1 : th (72 * nd + t) with
          | false => rfl
          | true =>
            cases q2 : Wd th c i t with
            | false => rfl
            | true => exact absurd ⟨t, ht, q1, q2⟩ q
/-! the reference's two looks from the top down -/
theorem kk_0 : (11 : Int32) = kk 12 0 := by decide
theorem kk_i {i : Nat} (h : i < 12) : kk 12 i = nI (11 - i) := if_pos h
theorem kk_12 : kk 12 12 = -1 := by decide
set_option maxHeartbeats 2000000 in
theorem bestR {there st : Nat → Int32} {th : Nat → Bool} (hb : BAr there th 864) {s : Nat → Nat} (hs : ∀ x, x < 12 → st x = nI (s x) ∧ s x ≤ 99) {nd : Nat} (hnd : nd < 12) (kx : Int32 → Option (Int32 × (Nat → Int32))) :
    (mK5_reason_L34 there (nI nd) st kx 5000 (-1) 11 = kx (-1) ∧ ∀ y, y < 12 → th (72 * nd + y) = true → ¬ s y < 99)
    ∨ ∃ k, k < 12 ∧ mK5_reason_L34 there (nI nd) st kx 5000 (-1) 11 = kx (nI k) ∧ th (72 * nd + k) = true ∧ s k < 99 ∧ ∀ y, y < 12 → th (72 * nd + y) = true → s y < 99 → s k < s y ∨ (s k = s y ∧ k ≤ y) := by
  rw [kk_0]
  refine lpU (S := Int32) (fun f i b => mK5_reason_L34 there (nI nd) st kx f b (kk 12 i)) (fun o => (o = kx (-1) ∧ ∀ y, y < 12 → th (72 * nd + y) = true → ¬ s y < 99) ∨ ∃ k, k < 12 ∧ o = kx (nI k) ∧ th (72 * nd + k) = true ∧ s k < 99 ∧ ∀ y, y < 12 → th (72 * nd + y) = true → s y < 99 → s k < s y ∨ (s k = s y ∧ k ≤ y)) 12 (fun i b => (b = -1 ∧ ∀ y, 12 - i ≤ y → y < 12 → th (72 * nd + y) = true → ¬ s y < 99) ∨ ∃ k, k < 12 ∧ 12 - i ≤ k ∧ b = nI k ∧ th (72 * nd + k) = true ∧ s k < 99 ∧ ∀ y, 12 - i ≤ y → y < 12 → th (72 * nd + y) = true → s y < 99 → s k < s y ∨ (s k = s y ∧ k ≤ y)) ?_ ?_ 5000 0 (-1) (by omega) (by omega) (Or.inl ⟨rfl, fun y a b => absurd a (by omega)⟩)
  · intro f b hJ
    have e0 : mK5_reason_L34 there (nI nd) st kx (f + 1) b (kk 12 12) = kx b := by
      show mK5_reason_B34 there (nI nd) st kx _ b (kk 12 12) = _
      unfold mK5_reason_B34
      rw [if_pos (by decide)]
    rcases hJ with ⟨rfl, h1⟩ | ⟨k, h1, h2, rfl, h3, h4, h5⟩
    · exact Or.inl ⟨e0, fun y hy => h1 y (by omega) hy⟩
    · exact Or.inr ⟨k, h1, e0, h3, h4, fun y hy => h5 y (by omega) hy⟩
  · intro f i b hi hJ
    right
    have hy : 11 - i < 12 := by omega
    have hsy := hs (11 - i) hy
    have hB : mK5_reason_L34 there (nI nd) st kx (f + 1) b (kk 12 i) = if th (72 * nd + (11 - i)) = true ∧ s (11 - i) < 99 then mK5_reason_J71 st b (nI (11 - i)) (mK5_reason_L34 there (nI nd) st kx f) 1 else mK5_reason_L34 there (nI nd) st kx f b (kk 12 (i + 1)) := by
      show mK5_reason_B34 there (nI nd) st kx (mK5_reason_L34 there (nI nd) st kx f) b (kk 12 i) = _
      have h0 : mK5_reason_J70 st b (nI (11 - i)) (mK5_reason_L34 there (nI nd) st kx f) = mK5_reason_L34 there (nI nd) st kx f b (kk 12 (i + 1)) := by
        unfold mK5_reason_J70 mK5_reason_J71
        rw [if_pos rfl, bd1v, ← kk_i hi, kk_s hi]
      unfold mK5_reason_B34
      rw [kk_i hi, if_neg (nI_pos (by omega)), codeT0, bd1v, rdN (by omega) (by decide), bd1v, hb _ (by omega), ifbI, rdN hy (by decide), bd1v, hsy.1, h0]
      by_cases e1 : th (72 * nd + (11 - i)) = true
      · rw [if_pos e1]
        by_cases e2 : s (11 - i) < 99
        · rw [if_neg (fun q => by rw [nn99, nI_leI (by omega) (by omega)] at q; omega), if_pos ⟨e1, e2⟩]
        · rw [if_pos (by rw [nn99]; exact (nI_leI (by omega) (by omega)).mpr (by omega)), if_neg (fun q => e2 q.2)]
      · rw [if_neg e1, if_neg (fun q => e1 q.1)]
    by_cases e : th (72 * nd + (11 - i)) = true ∧ s (11 - i) < 99
    · rw [hB, if_pos e]
      unfold mK5_reason_J71
      rw [if_neg (by decide), ← kk_i hi, kk_s hi, kk_i hi]
      rcases hJ with ⟨rfl, h1⟩ | ⟨k, h1, h2, rfl, h3, h4, h5⟩
      · refine ⟨nI (11 - i), Or.inr ⟨11 - i, hy, by omega, rfl, e.1, e.2, fun y a b q1 q2 => ?_⟩, ?_⟩
        · by_cases e3 : y = 11 - i
          · subst e3; exact Or.inr ⟨rfl, Nat.le_refl _⟩
          · exact absurd q2 (h1 y (by omega) b q1)
        · rw [if_pos (by decide), bd1v]
      · have hsk := hs k h1
        rw [if_neg (nI_pos (by omega)), rdN hy (by decide), bd1v, rdN h1 (by decide), bd1v, hsy.1, hsk.1, bd1v]
        by_cases e3 : s k < s (11 - i)
        · refine ⟨nI k, Or.inr ⟨k, h1, by omega, rfl, h3, h4, fun y a b q1 q2 => ?_⟩, ?_⟩
          · by_cases e4 : y = 11 - i
            · subst e4; exact Or.inl e3
            · exact h5 y (by omega) b q1 q2
          · rw [if_pos ((nI_ltI (by omega) (by omega)).mpr e3)]
        · refine ⟨nI (11 - i), Or.inr ⟨11 - i, hy, by omega, rfl, e.1, e.2, fun y a b q1 q2 => ?_⟩, ?_⟩
          · by_cases e4 : y = 11 - i
            · subst e4; exact Or.inr ⟨rfl, Nat.le_refl _⟩
            · rcases h5 y (by omega) b q1 q2 with q | q <;> omega
          · rw [if_neg (fun q => e3 ((nI_ltI (by omega) (by omega)).mp q)), bd1v]
    · rw [hB, if_neg e]
      refine ⟨b, ?_, rfl⟩
      rcases hJ with ⟨rfl, h1⟩ | ⟨k, h1, h2, rfl, h3, h4, h5⟩
      · refine Or.inl ⟨rfl, fun y a b q1 q2 => ?_⟩
        by_cases e4 : y = 11 - i
        · subst e4; exact e ⟨q1, q2⟩
        · exact h1 y (by omega) b q1 q2
      · refine Or.inr ⟨k, h1, by omega, rfl, h3, h4, fun y a b q1 q2 => ?_⟩
        by_cases e4 : y = 11 - i
        · subst e4; exact absurd ⟨q1, q2⟩ e
        · exact h5 y (by omega) b q1 q2
set_option maxHeartbeats 2000000 in
theorem stepR {there st : Nat → Int32} {th : Nat → Bool} (hb : BAr there th 864) {s : Nat → Nat} (hs : ∀ x, x < 12 → st x = nI (s x) ∧ s x ≤ 99) {o : Nat} (ho : o < 12) (ho1 : 1 ≤ s o) {k : Nat} (hk : k < 12) (h1 : th (72 * o + 12 + k) = true) (h2 : s k = s o - 1) (h3 : ∀ y, y < k → ¬ (th (72 * o + 12 + y) = true ∧ s y = s o - 1)) (kx : Int32 → Option (Int32 × (Nat → Int32))) :
    mK5_reason_L170 there st (nI o) kx 5000 (-1) 11 = kx (nI k) := by
  rw [kk_0]
  have hB : ∀ f i b, i < 12 → mK5_reason_L170 there st (nI o) kx (f + 1) b (kk 12 i) = mK5_reason_L170 there st (nI o) kx f (if th (72 * o + 12 + (11 - i)) = true ∧ s (11 - i) = s o - 1 then nI (11 - i) else b) (kk 12 (i + 1)) := by
    intro f i b hi
    have hy : 11 - i < 12 := by omega
    have hsy := hs (11 - i) hy
    have hso := hs o ho
    show mK5_reason_B170 there st (nI o) kx (mK5_reason_L170 there st (nI o) kx f) b (kk 12 i) = _
    unfold mK5_reason_B170
    rw [kk_s hi, kk_i hi, if_neg (nI_pos (by omega)), codeT1, bd1v, rdN (by omega) (by decide), bd1v, hb _ (by omega), ifbI, rdN hy (by decide), bd1v, rdN ho (by decide), bd1v, hsy.1, hso.1, nn1, nI_sub ho1, bd1v, bd1v]
    by_cases e1 : th (72 * o + 12 + (11 - i)) = true
    · rw [if_pos e1]
      by_cases e2 : s (11 - i) = s o - 1
      · rw [if_pos (by rw [e2]), if_pos ⟨e1, e2⟩]
      · rw [if_neg (fun q => e2 ((nI_eq (by omega) (by omega)).mp q)), if_neg (fun q => e2 q.2)]
    · rw [if_neg e1, if_neg (fun q => e1 q.1)]
  refine lpU (S := Int32) (fun f i b => mK5_reason_L170 there st (nI o) kx f b (kk 12 i)) (fun r => r = kx (nI k)) 12 (fun i b => 12 - i ≤ k → b = nI k) ?_ ?_ 5000 0 (-1) (by omega) (by omega) (fun q => absurd q (by omega))
  · intro f b hJ
    rw [hJ (by omega)]
    show mK5_reason_B170 there st (nI o) kx _ (nI k) (kk 12 12) = _
    unfold mK5_reason_B170
    rw [if_pos (by decide)]
  · intro f i b hi hJ
    right
    refine ⟨_, fun q => ?_, hB f i b hi⟩
    by_cases e : k = 11 - i
    · subst e; rw [if_pos ⟨h1, h2⟩]
    · rw [if_neg (h3 (11 - i) (by omega))]
      exact hJ (by omega)
theorem nI_m1 {n : Nat} (h : n < 2 ^ 31) : ¬ nI n = -1 := fun q => nI_pos h (by rw [q]; decide)
theorem codeC1 {s o : Nat} : mK0_codeOf (nI s) 1 (nI o) = some (nI (72 * s + 12 + o)) := codeC (s := s) (p := 1) (o := o)
theorem codeC0 {s o : Nat} : mK0_codeOf (nI s) 0 (nI o) = some (nI (72 * s + o)) := codeC (s := s) (p := 0) (o := o)
set_option maxHeartbeats 2000000 in
theorem pathSim {ob there st wi : Nat → Int32} {th : Nat → Bool} (h : OBr ob th) (hb : BAr there th 864) {c : Nat} (hc : c < 12) {s : Nat → Nat} (hs : SJ th c 12 st s) {d0 i : Nat} (hd : d0 ≤ 11) (hi : i ≤ d0) (hw : ∀ d, d ≤ d0 → WS th c d (wi d)) :
    ∀ (r j o fu g : Nat) (a p : Int32), j + r = i → 1 ≤ j → s o + j = d0 + 1 → o < 12 → r + 1 < fu → r < g →
      ∃ q, mK1_nthOfReason_L55 ob (nI i) (nI d0) wi (mK1_nthOfReason_A55 wi) fu a p (nI o) (nI j) = some (q, wi) ∧ mK5_reason_L157 there (nI i) st (mK5_reason_A157 st) g (nI o) (nI j) = some (q, st) := by
  have step : ∀ (j o fu g : Nat) (a p : Int32), 1 ≤ j → j ≤ i → s o + j = d0 + 1 → o < 12 → ∃ y, y < 12 ∧ s y + (j + 1) = d0 + 1 ∧ mK1_nthOfReason_L55 ob (nI i) (nI d0) wi (mK1_nthOfReason_A55 wi) (fu + 1) a p (nI o) (nI j) = mK1_nthOfReason_L55 ob (nI i) (nI d0) wi (mK1_nthOfReason_A55 wi) fu (nI o) 1 (nI y) (nI (j + 1)) ∧ mK5_reason_L157 there (nI i) st (mK5_reason_A157 st) (g + 1) (nI o) (nI j) = mK5_reason_A170 (nI i) st (nI o) (nI j) (mK5_reason_L157 there (nI i) st (mK5_reason_A157 st) g) (nI y) := by
    intro j o fu g a p hj1 hji hso ho
    obtain ⟨y0, hy0, q1, q2⟩ := SJ_ex hs ho (by omega) (by omega)
    have hwj := hw (d0 - j) (by omega)
    have hbits : ∀ x, x < 12 → bt (ob (6 * o + 1) &&& wi (d0 - j)) x = (th (72 * o + 12 + x) && decide (s x ≤ d0 - j)) := fun x hx => by
      rw [b_and, show bt (ob (6 * o + 1)) x = th (72 * o + 12 + x) from OBr_at (p := 1) h ho (by omega) hx, hwj.2 x hx, SJ_W hs hx (by omega)]
    have hsm : sm (ob (6 * o + 1) &&& wi (d0 - j)) := sm_and (h (6 * o + 1) (by omega)).1
    have hne : ¬ (ob (6 * o + 1) &&& wi (d0 - j)) = 0 := fun e => by
      have := (eq0_sm hsm).mp e y0 hy0
      rw [hbits y0 hy0, q1, decide_eq_true (by omega)] at this
      cases this
    obtain ⟨k, hk, e1, e2, e3⟩ := least hsm hne
    rw [hbits k hk, Bool.and_eq_true, decide_eq_true_eq] at e2
    have htri := SJ_tri hc hs ho hk e2.1
    refine ⟨k, hk, by omega, ?_, ?_⟩
    · show mK1_nthOfReason_B55 ob (nI i) (nI d0) wi (mK1_nthOfReason_A55 wi) (mK1_nthOfReason_L55 ob (nI i) (nI d0) wi (mK1_nthOfReason_A55 wi) fu) a p (nI o) (nI j) = _
      unfold mK1_nthOfReason_B55
      rw [if_neg (fun q => by rw [nI_ltI (by omega) (by omega)] at q; omega), objs1 ho, bd1v, nI_sub (by omega), rdN (by omega) (by decide), bd1v, e1, bd1v, nIs, bd1v]
    · show mK5_reason_B157 there (nI i) st (mK5_reason_A157 st) (mK5_reason_L157 there (nI i) st (mK5_reason_A157 st) g) (nI o) (nI j) = _
      unfold mK5_reason_B157
      rw [if_neg (fun q => by rw [nI_ltI (by omega) (by omega)] at q; omega)]
      refine stepR hb hs.1 ho (by omega) hk e2.1 (by omega) (fun y hy q => ?_) _
      have := e3 y hy
      rw [hbits y (by omega), q.1, decide_eq_true (by omega)] at this
      cases this
  intro r
  induction r with
  | zero =>
    intro j o fu g a p hj hj1 hso ho hfu hg
    obtain ⟨fu, rfl⟩ : ∃ q, fu = q + 2 := ⟨fu - 2, by omega⟩
    obtain ⟨g, rfl⟩ : ∃ q, g = q + 1 := ⟨g - 1, by omega⟩
    obtain ⟨y, hy, h1, h2, h3⟩ := step j o (fu + 1) g a p hj1 (by omega) hso ho
    refine ⟨nI (72 * o + 12 + y), ?_, ?_⟩
    · rw [h2]
      show mK1_nthOfReason_B55 ob (nI i) (nI d0) wi (mK1_nthOfReason_A55 wi) _ (nI o) 1 (nI y) (nI (j + 1)) = _
      unfold mK1_nthOfReason_B55
      rw [if_pos ((nI_ltI (by omega) (by omega)).mpr (by omega))]
      unfold mK1_nthOfReason_A55
      rw [codeC1, bd1v]
    · rw [h3]
      unfold mK5_reason_A170
      rw [if_pos ((nI_eq (by omega) (by omega)).mpr (by omega)), codeT1, bd1v]
  | succ r ih =>
    intro j o fu g a p hj hj1 hso ho hfu hg
    obtain ⟨fu, rfl⟩ : ∃ q, fu = q + 1 := ⟨fu - 1, by omega⟩
    obtain ⟨g, rfl⟩ : ∃ q, g = q + 1 := ⟨g - 1, by omega⟩
    obtain ⟨y, hy, h1, h2, h3⟩ := step j o fu g a p hj1 (by omega) hso ho
    obtain ⟨q, e1, e2⟩ := ih (j + 1) y fu g (nI o) 1 (by omega) (by omega) h1 hy (by omega) (by omega)
    refine ⟨q, by rw [h2, e1], ?_⟩
    rw [h3]
    unfold mK5_reason_A170
    rw [if_neg (fun q => by rw [nI_eq (by omega) (by omega)] at q; omega), nIs, bd1v, e2]
set_option maxHeartbeats 2000000 in
theorem p_reason {so : Int32} {ob me there : Nat → Int32} {th : Nat → Bool} (h : TR2 so ob me there th) (wi steps : Nat → Int32) (v1 v2 v3 : Int32) : ∃ q wi' steps', mK0_reason ob wi v1 v2 v3 = some (q, wi') ∧ mK5_reason there steps v1 v2 v3 = some (q, steps') := by
  obtain ⟨-, h1, h2, h3⟩ := h
  unfold mK0_reason mK5_reason
  rcases isNodeC v1 with ⟨nd, hnd, rfl, e1, e2⟩ | ⟨e1, e2⟩
  · rw [e1, e2, bd1v, bd1v, if_neg (by decide), if_neg (by decide)]
    rcases isNodeC v2 with ⟨c, hc, rfl, e3, e4⟩ | ⟨e3, e4⟩
    · rw [e3, e4, bd1v, bd1v, if_neg (by decide), if_neg (by decide)]
      obtain ⟨st, s, e5, hs⟩ := measureR h3 hc steps
      rw [e5, bd1v]
      unfold mK1_nthOfReason
      rcases fewC h1 hnd hc wi with ⟨d0, wi', hd0, e6, hw, ⟨t, ht, ht1, ht2⟩, hlt⟩ | ⟨wi', e6, hno⟩
      · have hst : s t ≤ d0 := by
          rw [SJ_W hs ht (by omega)] at ht2
          exact of_decide_eq_true ht2
        rw [e6, bd2v, if_neg (nI_m1 (by omega))]
        rcases bestR h3 hs.1 hnd (mK5_reason_A34 there (nI nd) v3 st) with ⟨-, q⟩ | ⟨k, hk, e7, hk1, hk2, hk3⟩
        · exact absurd (show s t < 99 by omega) (q t ht ht1)
        · have hkd : s k = d0 := by
            have a1 := hk3 t ht ht1 (by omega)
            have a2 : ¬ s k < d0 := fun q => by
              have := hlt (s k) q k hk hk1
              rw [hs.2.1 k hk hk2] at this; cases this
            omega
          rw [e7]
          unfold mK5_reason_A34
          rw [if_neg (nI_pos (by omega))]
          by_cases hv : v3 < 0
          · exact ⟨-2, wi', st, by rw [if_pos hv, bd2v], by rw [if_pos hv]⟩
          · rw [if_neg hv, if_neg hv, rdN hk (by decide), bd1v, (hs.1 k hk).1, hkd]
            obtain ⟨i, hi, rfl⟩ := nI_of hv
            by_cases hid : i ≤ d0
            · rw [if_pos ((nI_leI (by omega) (by omega)).mpr hid), if_pos ((nI_leI (by omega) (by omega)).mpr hid), objs0 hnd, bd1v, rdN (by omega) (by decide), bd1v]
              have hwd := hw d0 (Nat.le_refl _)
              have hbits : ∀ x, x < 12 → bt (ob (6 * nd + 0) &&& wi' d0) x = (th (72 * nd + x) && decide (s x ≤ d0)) := fun x hx => by
                rw [b_and, show bt (ob (6 * nd + 0)) x = th (72 * nd + x) from OBr_at (p := 0) h1 hnd (by omega) hx, hwd.2 x hx, SJ_W hs hx (by omega)]
              have hsm : sm (ob (6 * nd + 0) &&& wi' d0) := sm_and (h1 (6 * nd + 0) (by omega)).1
              have hne : ¬ (ob (6 * nd + 0) &&& wi' d0) = 0 := fun e => by
                have := (eq0_sm hsm).mp e t ht
                rw [hbits t ht, ht1, decide_eq_true hst] at this
                cases this
              obtain ⟨k', hk', e8, e9, e10⟩ := least hsm hne
              have hkk : k' = k := by
                rw [hbits k' hk', Bool.and_eq_true, decide_eq_true_eq] at e9
                have a1 := hk3 k' hk' e9.1 (by omega)
                rcases Nat.lt_or_ge k k' with q | q
                · have := e10 k q
                  rw [hbits k hk, hk1, decide_eq_true (by omega)] at this
                  cases this
                · omega
              subst hkk
              rw [e8, bd1v]
              by_cases hi0 : i = 0
              · subst hi0
                refine ⟨nI (72 * nd + k'), wi', st, ?_, ?_⟩
                · show bd2 (mK1_nthOfReason_B55 ob (nI 0) (nI d0) wi' (mK1_nthOfReason_A55 wi') _ (nI nd) 0 (nI k') 1) _ = _
                  unfold mK1_nthOfReason_B55
                  rw [if_pos (by decide)]
                  unfold mK1_nthOfReason_A55
                  rw [codeC0, bd1v, bd2v]
                · rw [if_pos (show nI 0 = 0 from rfl), codeT0, bd1v]
              · obtain ⟨q, e11, e12⟩ := pathSim h1 h3 hc hs hd0 hid hw (i - 1) 1 k' 5000 5000 (nI nd) 0 (by omega) (by omega) (by omega) hk' (by omega) (by omega)
                refine ⟨q, wi', st, ?_, ?_⟩
                · rw [show mK1_nthOfReason_L55 ob (nI i) (nI d0) wi' (mK1_nthOfReason_A55 wi') 5000 (nI nd) 0 (nI k') 1 = _ from e11, bd2v]
                · rw [if_neg (fun q => hi0 ((nI_z (by omega)).mp q))]
                  exact e12
            · exact ⟨-2, wi', st, by rw [if_neg (fun q => hid ((nI_leI (by omega) (by omega)).mp q)), bd2v], by rw [if_neg (fun q => hid ((nI_leI (by omega) (by omega)).mp q))]⟩
      · rw [e6, bd2v, if_pos rfl, bd2v]
        rcases bestR h3 hs.1 hnd (mK5_reason_A34 there (nI nd) v3 st) with ⟨e7, -⟩ | ⟨k, hk, e7, hk1, hk2, hk3⟩
        · exact ⟨-2, wi', st, rfl, by rw [e7]; unfold mK5_reason_A34; rw [if_pos (by decide)]⟩
        · have := hno (s k) (by have := SJ_11 hc hs hk hk2; omega) k hk hk1
          rw [hs.2.1 k hk hk2] at this; cases this
    · exact ⟨-1, wi, steps, by rw [e3]; rfl, by rw [e4]; rfl⟩
  · exact ⟨-1, wi, steps, by rw [e1]; rfl, by rw [e2]; rfl⟩
