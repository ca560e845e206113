/-! own rows: what a rule asks of a node, in the class and in the reference -/
def allB (f : Nat → Bool) : Nat → Bool
  | 0 => true
  | n + 1 => allB f n && f n
theorem allB_t {f : Nat → Bool} : ∀ {n : Nat}, allB f n = true ↔ ∀ i, i < n → f i = true
  | 0 => ⟨fun _ i h => absurd h (by omega), fun _ => rfl⟩
  | n + 1 => by
    rw [allB, Bool.and_eq_true, allB_t]
    constructor
    · rintro ⟨h1, h2⟩ i hi
      rcases Nat.lt_or_ge i n with a | a
      · exact h1 i a
      · rw [show i = n by omega]; exact h2
    · exact fun h => ⟨fun i hi => h i (by omega), h n (by omega)⟩
theorem allB_one {n : Nat} : allB (fun _ => true) n = true := allB_t.mpr fun _ _ => rfl
def RUr (ki ta pr nu : Nat → Int32) (K T P N : Nat → Nat) (n : Nat) : Prop := ∀ r, r < n → ki r = nI (K r) ∧ ta r = nI (T r) ∧ pr r = nI (P r) ∧ nu r = nI (N r) ∧ K r < 6 ∧ T r < 12 ∧ P r < 6 ∧ N r ≤ 12 ∧ (2 ≤ K r → N r < 12) ∧ (4 ≤ K r → N r < 6)
/-- what kinds 2 to 5 ask of one y -/
noncomputable def okE (th : Nat → Bool) (k p a x y : Nat) : Bool := if k = 2 then !th (72 * x + 12 * p + y) || isO th y a else if k = 3 then !(th (72 * x + 12 * p + y) && decide (y = a)) else if k = 4 then th (72 * x + 12 * p + y) == th (72 * x + 12 * a + y) else if k = 5 then !(th (72 * x + 12 * p + y) && th (72 * x + 12 * a + y)) else true
noncomputable def hld (th : Nat → Bool) (k p a x : Nat) : Bool := if k = 0 then decide (a ≤ cntB (fun y => th (72 * x + 12 * p + y)) 12) else if k = 1 then decide (cntB (fun y => th (72 * x + 12 * p + y)) 12 ≤ a) else allB (okE th k p a x) 12
noncomputable def resB (th : Nat → Bool) (K T P N : Nat → Nat) (r x : Nat) : Bool := isO th x (T r) && !hld th (K r) (P r) (N r) x
theorem ifbI {A : Type} {b : Bool} {x y : A} : (if bI b = 0 then x else y) = if b = true then y else x := by cases b <;> rfl
theorem bI_dec {p : Prop} [Decidable p] : (if p then (some 1 : Option Int32) else some 0) = some (bI (decide p)) := by by_cases h : p <;> simp [h, bI]
theorem bI_dec' {p : Prop} [Decidable p] : (if p then (some 0 : Option Int32) else some 1) = some (bI (decide ¬ p)) := by by_cases h : p <;> simp [h, bI]
set_option maxHeartbeats 2000000 in
theorem holdsC {ob me ki ta pr nu : Nat → Int32} {th : Nat → Bool} {K T P N : Nat → Nat} {n : Nat} (ho : OBr ob th) (hm : MEr me th) (hr : RUr ki ta pr nu K T P N n) (hn : n ≤ 10) {r x : Nat} (hrn : r < n) (hx : x < 12) : mK2_holds ki pr nu ob me (nI r) (nI x) = some (bI (hld th (K r) (P r) (N r) x)) := by
  obtain ⟨e1, -, e3, e4, k6, -, p6, a12, b2, b4⟩ := hr r hrn
  have hob : ∀ p y, p < 6 → y < 12 → bt (ob (6 * x + p)) y = th (72 * x + 12 * p + y) := fun p y hp hy => OBr_at ho hx hp hy
  have hsm : ∀ p, p < 6 → sm (ob (6 * x + p)) := fun p hp => (ho (6 * x + p) (by omega)).1
  unfold mK2_holds
  rw [rdN (by omega) (by decide), bd1v, e3, objs hx p6, bd1v, rdN (by omega) (by decide), bd1v, e4, rdN (by omega) (by decide), bd1v, e1]
  have hcnt : cntB (bt (ob (6 * x + P r))) 12 = cntB (fun y => th (72 * x + 12 * P r + y)) 12 := cntB_congr fun y hy => hob _ y p6 hy
  have hcl := cntB_le (fun y => th (72 * x + 12 * P r + y)) 12
  unfold hld
  rcases (show K r = 0 ∨ K r = 1 ∨ K r = 2 ∨ K r = 3 ∨ K r = 4 ∨ K r = 5 by omega) with e | e | e | e | e | e
  · rw [e, if_pos (show nI 0 = 0 from rfl), if_pos rfl, bitC (hsm _ p6), bd1v, hcnt, bI_dec']
    congr 2
    rw [decide_eq_decide, nI_ltI (by omega) (by omega)]
    omega
  · rw [e, if_neg (show ¬ nI 1 = 0 by decide), if_pos (show nI 1 = 1 from rfl), if_neg (by decide), if_pos rfl, bitC (hsm _ p6), bd1v, hcnt, bI_dec']
    congr 2
    rw [decide_eq_decide, nI_ltI (by omega) (by omega)]
    omega
  · rw [e, if_neg (show ¬ nI 2 = 0 by decide), if_neg (show ¬ nI 2 = 1 by decide), if_pos (show nI 2 = 2 from rfl), if_neg (by decide), if_neg (by decide), memsOf (b2 (by omega)), bd1v, bI_dec]
    congr 2
    rw [Bool.eq_iff_iff, decide_eq_true_iff, eq0_sm (sm_and (hsm _ p6)), allB_t]
    refine forall_congr' fun y => forall_congr' fun hy => ?_
    rw [b_and, sm_not _ y (by omega), hob _ y p6 hy, (hm (N r) (b2 (by omega))).2 y hy]
    unfold okE
    rw [if_pos rfl]
    cases th (72 * x + 12 * P r + y) <;> cases isO th y (N r) <;> simp
  · rw [e, if_neg (show ¬ nI 3 = 0 by decide), if_neg (show ¬ nI 3 = 1 by decide), if_neg (show ¬ nI 3 = 2 by decide), if_pos (show nI 3 = 3 from rfl), if_neg (by decide), if_neg (by decide), hasM (by omega), bd1v, bI_dec]
    congr 2
    rw [Bool.eq_iff_iff, decide_eq_true_iff, bI_0, allB_t, hob _ _ p6 (b2 (by omega))]
    constructor
    · intro h y hy
      unfold okE
      rw [if_neg (by decide), if_pos rfl]
      by_cases ey : y = N r
      · rw [ey, h]; rfl
      · rw [decide_eq_false ey, Bool.and_false]; rfl
    · intro h
      have h1 := h (N r) (b2 (by omega))
      unfold okE at h1
      rw [if_neg (by decide), if_pos rfl, decide_eq_true rfl, Bool.and_true] at h1
      simpa using h1
  · rw [e, if_neg (show ¬ nI 4 = 0 by decide), if_neg (show ¬ nI 4 = 1 by decide), if_neg (show ¬ nI 4 = 2 by decide), if_neg (show ¬ nI 4 = 3 by decide), if_pos (show nI 4 = 4 from rfl), if_neg (by decide), if_neg (by decide), objs hx (b4 (by omega)), bd1v, bI_dec]
    congr 2
    rw [Bool.eq_iff_iff, decide_eq_true_iff, allB_t]
    have hk : ∀ y, y < 12 → (okE th 4 (P r) (N r) x y = true ↔ bt (ob (6 * x + P r)) y = bt (ob (6 * x + N r)) y) := fun y hy => by
      rw [hob _ y p6 hy, hob _ y (b4 (by omega)) hy]
      unfold okE
      rw [if_neg (by decide), if_neg (by decide), if_pos rfl, beq_iff_eq]
    constructor
    · intro h y hy
      rw [hk y hy, h]
    · intro h
      exact sm_ext (hsm _ p6) (hsm _ (b4 (by omega))) fun y hy => (hk y hy).mp (h y hy)
  · rw [e, if_neg (show ¬ nI 5 = 0 by decide), if_neg (show ¬ nI 5 = 1 by decide), if_neg (show ¬ nI 5 = 2 by decide), if_neg (show ¬ nI 5 = 3 by decide), if_neg (show ¬ nI 5 = 4 by decide), if_neg (by decide), if_neg (by decide), objs hx (b4 (by omega)), bd1v, bI_dec]
    congr 2
    rw [Bool.eq_iff_iff, decide_eq_true_iff, eq0_sm (sm_and (hsm _ p6)), allB_t]
    refine forall_congr' fun y => forall_congr' fun hy => ?_
    rw [b_and, hob _ y p6 hy, hob _ y (b4 (by omega)) hy]
    unfold okE
    rw [if_neg (by decide), if_neg (by decide), if_neg (by decide), if_pos rfl]
    cases th (72 * x + 12 * P r + y) <;> cases th (72 * x + 12 * N r + y) <;> simp
theorem failsC {ob me ki ta pr nu : Nat → Int32} {th : Nat → Bool} {K T P N : Nat → Nat} {n : Nat} (ho : OBr ob th) (hm : MEr me th) (hr : RUr ki ta pr nu K T P N n) (hn : n ≤ 10) {r x : Nat} (hrn : r < n) (hx : x < 12) : mK2_fails ki ta pr nu ob me (nI r) (nI x) = some (bI (resB th K T P N r x)) := by
  obtain ⟨-, e2, -, -, -, t12, -⟩ := hr r hrn
  unfold mK2_fails resB
  rw [rdN (by omega) (by decide), bd1v, e2, isMem hx t12, bd1v, (hm _ t12).2 x hx, ifbI]
  cases isO th x (T r) with
  | false => rfl
  | true =>
    rw [if_pos rfl, holdsC ho hm hr hn hrn hx, bd1v, ifbI]
    cases hld th (K r) (P r) (N r) x <;> rfl
set_option maxHeartbeats 1000000 in
theorem failingC {ob me ki ta pr nu : Nat → Int32} {th : Nat → Bool} {K T P N : Nat → Nat} {n : Nat} (ho : OBr ob th) (hm : MEr me th) (hr : RUr ki ta pr nu K T P N n) (hn : n ≤ 10) {r : Nat} (hrn : r < n) : ∃ z, mK2_failing ki ta pr nu ob me (nI r) = some z ∧ sm z ∧ ∀ x, x < 12 → bt z x = resB th K T P N r x := by
  obtain ⟨-, e2, -, -, -, t12, -⟩ := hr r hrn
  unfold mK2_failing
  rw [rdN (by omega) (by decide), bd1v, e2, memsOf t12, bd1v]
  refine lpU (S := Int32) (fun f i st => mK2_failing_L17 ki pr nu ob me (nI r) (me (T r)) mK2_failing_A17 f st (nI i)) (fun o => ∃ z, o = some z ∧ sm z ∧ ∀ x, x < 12 → bt z x = resB th K T P N r x) 12
    (fun i st => sm st ∧ ∀ x, x < 12 → bt st x = (resB th K T P N r x && decide (x < i))) ?_ ?_ 5000 0 0 (by omega) (by omega) ⟨sm_0, fun x _ => by rw [b_0]; simp⟩
  · rintro f st ⟨h1, h2⟩
    refine ⟨st, ?_, h1, fun x hx => by rw [h2 x hx, decide_eq_true hx, Bool.and_true]⟩
    show mK2_failing_B17 ki pr nu ob me (nI r) (me (T r)) mK2_failing_A17 _ st (nI 12) = _
    unfold mK2_failing_B17
    rw [if_pos ((le12 (by omega)).mpr (by omega))]
    rfl
  · rintro f i st hi ⟨h1, h2⟩
    have hgo : ¬ (12 : Int32) ≤ nI i := fun q => by rw [le12 (by omega)] at q; omega
    by_cases e0 : me (T r) = 0
    · left
      have hz : ∀ x, x < 12 → resB th K T P N r x = false := fun x hx => by
        unfold resB
        rw [← (hm _ t12).2 x hx, e0, b_0]; rfl
      refine ⟨st, ?_, h1, fun x hx => by rw [h2 x hx, hz x hx]; rfl⟩
      show mK2_failing_B17 ki pr nu ob me (nI r) (me (T r)) mK2_failing_A17 _ st (nI i) = _
      unfold mK2_failing_B17
      rw [if_neg hgo, if_pos e0]
      rfl
    · right
      have hstep : ∀ st', (∀ x, x < 12 → bt st' x = (bt st x || (decide (x = i) && resB th K T P N r i))) → ∀ x, x < 12 → bt st' x = (resB th K T P N r x && decide (x < i + 1)) := by
        intro st' hq x hx
        rw [hq x hx, h2 x hx]
        by_cases e : x = i
        · subst e; simp
        · rw [decide_eq_false e, show decide (x < i + 1) = decide (x < i) from decide_eq_decide.mpr (by omega)]; simp
      cases hb : resB th K T P N r i with
      | true =>
        have hq : isO th i (T r) = true ∧ hld th (K r) (P r) (N r) i = false := by
          unfold resB at hb
          rw [Bool.and_eq_true] at hb
          exact ⟨hb.1, by simpa using hb.2⟩
        refine ⟨st ||| (1 : Int32) <<< (nI i &&& 31), ⟨sm_or h1 (sm_one hi), hstep _ fun x hx => by rw [b_or, bt_one (by omega) (by omega), hb, Bool.and_true]⟩, ?_⟩
        show mK2_failing_B17 ki pr nu ob me (nI r) (me (T r)) mK2_failing_A17 (mK2_failing_L17 ki pr nu ob me (nI r) (me (T r)) mK2_failing_A17 f) st (nI i) = _
        unfold mK2_failing_B17
        rw [if_neg hgo, if_neg e0, hasM (by omega), bd1v, (hm _ t12).2 i hi, hq.1, if_neg (by decide), holdsC ho hm hr hn hrn hi, bd1v, hq.2, if_pos bI_f, bd1v, nIs, bd1v]
      | false =>
        refine ⟨st, ⟨h1, hstep _ fun x hx => by rw [hb, Bool.and_false, Bool.or_false]⟩, ?_⟩
        show mK2_failing_B17 ki pr nu ob me (nI r) (me (T r)) mK2_failing_A17 (mK2_failing_L17 ki pr nu ob me (nI r) (me (T r)) mK2_failing_A17 f) st (nI i) = _
        unfold mK2_failing_B17
        rw [if_neg hgo, if_neg e0, hasM (by omega), bd1v, (hm _ t12).2 i hi]
        unfold resB at hb
        cases hq : isO th i (T r) with
        | false => rw [if_pos bI_f, nIs, bd1v]
        | true =>
          rw [hq, Bool.true_and] at hb
          have hh : hld th (K r) (P r) (N r) i = true := by simpa using hb
          rw [if_neg (by decide), holdsC ho hm hr hn hrn hi, bd1v, hh, if_neg (by decide), nIs, bd1v]
