/-! own rows: the sets in their order: the class's next set and the reference's picks -/
theorem mask_all : ∀ a, a < 14 → ∀ i, i < 32 → bt (((1 : Int32) <<< (nI a &&& 31)) - 1) i = decide (i < a) := by decide +kernel
theorem hi_all : ∀ a, a < 64 → ∀ b, b < 64 → ¬ (64 * a + b = 0) → ∃ m, m < 12 ∧ mJ2_numberOfLeadingZeros (nI (64 * a + b)) = some (nI (31 - m)) ∧ (64 * a + b).testBit m = true ∧ ∀ j, j < 12 → (decide (m < j) && (64 * a + b).testBit j) = false := by decide +kernel
theorem hiB {x : Int32} (hx : sm x) (h0 : ¬ x = 0) : ∃ m, m < 12 ∧ mJ2_numberOfLeadingZeros x = some (nI (31 - m)) ∧ bt x m = true ∧ ∀ j, j < 12 → m < j → bt x j = false := by
  obtain ⟨V, hV, rfl⟩ := sm_val hx
  obtain ⟨k, k1, k2, k3, k4⟩ := hi_all (V / 64) (by omega) (V % 64) (by omega) (fun q => h0 (by rw [show V = 0 by omega]; rfl))
  rw [show 64 * (V / 64) + V % 64 = V by omega] at k2 k3 k4
  exact ⟨k, k1, k2, by rw [bt_nI (by omega)]; exact k3, fun j h1 h2 => by rw [bt_nI (by omega)]; have := k4 j h1; rw [decide_eq_true h2, Bool.true_and] at this; exact this⟩
/-- n numbers below N that go up -/
def Inc (Q : Nat → Nat) (n N : Nat) : Prop := (∀ k, k < n → Q k < N) ∧ ∀ j k, j < k → k < n → Q j < Q k
def ofQ (Q : Nat → Nat) (n : Nat) : Nat → Bool := fun i => anyB (fun k => Q k == i) n
theorem ofQ_t {Q : Nat → Nat} {n i : Nat} : ofQ Q n i = true ↔ ∃ k, k < n ∧ Q k = i := by
  unfold ofQ
  rw [anyB_t]
  constructor
  · rintro ⟨k, h1, h2⟩; exact ⟨k, h1, by simpa using h2⟩
  · rintro ⟨k, h1, h2⟩; exact ⟨k, h1, by simpa using h2⟩
theorem ofQ_f {Q : Nat → Nat} {n i : Nat} (h : ∀ k, k < n → ¬ Q k = i) : ofQ Q n i = false := by
  cases e : ofQ Q n i with
  | false => rfl
  | true => obtain ⟨k, h1, h2⟩ := ofQ_t.mp e; exact absurd h2 (h k h1)
theorem Inc_le {Q : Nat → Nat} {n N : Nat} (h : Inc Q n N) : ∀ d k, k + d < n → Q k + d ≤ Q (k + d)
  | 0, k, _ => Nat.le_refl _
  | d + 1, k, hk => by
    have := Inc_le h d k (by omega)
    have := h.2 (k + d) (k + (d + 1)) (by omega) hk
    omega
theorem Inc_top {Q : Nat → Nat} {n N : Nat} (h : Inc Q n N) {k : Nat} (hk : k < n) : Q k + n ≤ N + k := by
  have h1 := Inc_le h (n - 1 - k) k (by omega)
  have h2 := h.1 (k + (n - 1 - k)) (by omega)
  omega
theorem cntQ {Q : Nat → Nat} {N : Nat} (hN : N ≤ 12) : ∀ {n : Nat}, Inc Q n N → cntB (ofQ Q n) 12 = n
  | 0, _ => cntB_0 12
  | n + 1, h => by
    rw [cntB_add (f := ofQ Q n) (k := Q n) (by have := h.1 n (by omega); omega) (fun i hi => by
      show (ofQ Q n i || (Q n == i)) = _
      rw [show (Q n == i) = decide (i = Q n) by rw [Bool.eq_iff_iff, beq_iff_eq, decide_eq_true_eq]; exact eq_comm]) (ofQ_f fun k hk => by have := h.2 k n hk (by omega); omega), cntQ hN ⟨fun k hk => h.1 k (by omega), fun j k a b => h.2 j k a (by omega)⟩]
/-- the row of picks as it goes on from place k -/
def goQ (Q : Nat → Nat) (k : Nat) : Nat → Nat := fun j => if j < k then Q j else Q k + 1 + (j - k)
/-- S is the set of Q -/
def SQ (S : Int32) (Q : Nat → Nat) (n : Nat) : Prop := sm S ∧ ∀ i, i < 12 → bt S i = ofQ Q n i
def PQ (pi : Nat → Int32) (Q : Nat → Nat) (n : Nat) : Prop := ∀ k, k < n → pi k = nI (Q k)
/-- either Q is the last of its size, or it goes on from place k -/
def lastQ (Q : Nat → Nat) (n N : Nat) : Prop := ∀ k, k < n → Q k = N - n + k
def movQ (Q : Nat → Nat) (n N k : Nat) : Prop := k < n ∧ (∀ j, k < j → j < n → Q j = N - n + j) ∧ Q k < N - n + k
theorem Inc_N {Q : Nat → Nat} {n N : Nat} (h : Inc Q n N) : n ≤ N := by
  rcases Nat.eq_zero_or_pos n with e | e
  · omega
  · have := Inc_top h (k := 0) e
    have := h.1 0 e
    omega
theorem goQ_Inc {Q : Nat → Nat} {n N k : Nat} (h : Inc Q n N) (hm : movQ Q n N k) : Inc (goQ Q k) n N := by
  obtain ⟨h1, h2, h3⟩ := hm
  have hN := Inc_N h
  constructor
  · intro j hj
    unfold goQ
    by_cases e : j < k
    · rw [if_pos e]; exact h.1 j (by omega)
    · rw [if_neg e]; omega
  · intro i j hij hj
    unfold goQ
    by_cases e : j < k
    · rw [if_pos e, if_pos (by omega)]; exact h.2 i j hij hj
    · rw [if_neg e]
      by_cases e2 : i < k
      · rw [if_pos e2]
        have := h.2 i k e2 h1
        omega
      · rw [if_neg e2]; omega
theorem lastOrMov {Q : Nat → Nat} {n N : Nat} (h : Inc Q n N) : lastQ Q n N ∨ ∃ k, movQ Q n N k := by
  have key : ∀ d, d ≤ n → (∀ j, n - d ≤ j → j < n → Q j = N - n + j) ∨ ∃ k, movQ Q n N k := by
    intro d
    induction d with
    | zero => intro _; left; intro j a b; omega
    | succ d ih =>
      intro hd
      rcases ih (by omega) with q | q
      · by_cases e : Q (n - (d + 1)) = N - n + (n - (d + 1))
        · left
          intro j a b
          by_cases e2 : j = n - (d + 1)
          · rw [e2]; exact e
          · exact q j (by omega) b
        · right
          have := Inc_top h (k := n - (d + 1)) (by omega)
          have := Inc_N h
          exact ⟨n - (d + 1), by omega, fun j a b => q j (by omega) b, by omega⟩
      · exact Or.inr q
  rcases key n (Nat.le_refl n) with q | q
  · exact Or.inl fun k hk => q k (by omega) hk
  · exact Or.inr q
set_option maxHeartbeats 1000000 in
/-- the class's walk over the members at the top -/
theorem packC {S : Int32} {N pk : Nat} (hN : N ≤ 12) (hpk : pk ≤ N) (h1 : ∀ i, i < pk → bt S (N - 1 - i) = true) (h2 : pk < N → bt S (N - 1 - pk) = false) (kx : Int32 → Option Int32) : mK0_nextSet_L2 S (nI N) kx 5000 0 = kx (nI pk) := by
  refine lpU (S := Unit) (fun f i _ => mK0_nextSet_L2 S (nI N) kx f (nI i)) (fun o => o = kx (nI pk)) pk (fun _ _ => True) ?_ ?_ 5000 0 () (by omega) (by omega) trivial
  · intro f _ _
    show mK0_nextSet_B2 S (nI N) kx _ (nI pk) = _
    unfold mK0_nextSet_B2
    rcases Nat.lt_or_ge pk N with q | q
    · rw [if_neg (fun w => by rw [nI_leI (by omega) (by omega)] at w; omega), nn1, nI_sub (by omega), nI_sub (by omega), hasM (by omega), bd1v, h2 q, if_pos bI_f]
    · rw [if_pos ((nI_leI (by omega) (by omega)).mpr q)]
  · intro f i _ hi _
    right
    refine ⟨(), trivial, ?_⟩
    show mK0_nextSet_B2 S (nI N) kx (mK0_nextSet_L2 S (nI N) kx f) (nI i) = _
    unfold mK0_nextSet_B2
    rw [if_neg (fun w => by rw [nI_leI (by omega) (by omega)] at w; omega), show nI N - 1 - nI i = nI (N - 1 - i) by rw [nn1, nI_sub (by omega), nI_sub (by omega)], hasM (by omega), bd1v, h1 i hi, if_neg (by decide), nIs, bd1v]
def firstQ (n : Nat) : Int32 := ((1 : Int32) <<< (nI n &&& 31)) - 1
theorem firstQ_bt {n i : Nat} (hn : n < 14) (hi : i < 32) : bt (firstQ n) i = decide (i < n) := mask_all n hn i hi
theorem firstQ_SQ {n : Nat} (hn : n ≤ 12) : SQ (firstQ n) id n := ⟨fun i a b => by rw [firstQ_bt (by omega) b, decide_eq_false (by omega)], fun i hi => by
  rw [firstQ_bt (by omega) (by omega)]
  by_cases e : i < n
  · rw [decide_eq_true e, (ofQ_t (Q := id) (i := i)).mpr ⟨i, e, rfl⟩]
  · rw [decide_eq_false e, ofQ_f fun k hk q => e (by rw [← show k = i from q]; exact hk)]⟩
theorem id_Inc {n N : Nat} (h : n ≤ N) : Inc id n N := ⟨fun k hk => by show k < N; omega, fun _ _ h _ => h⟩
set_option maxHeartbeats 1000000 in
theorem nextC_last {S : Int32} {Q : Nat → Nat} {n N : Nat} (hN : N ≤ 12) (hS : SQ S Q n) (hi : Inc Q n N) (hl : lastQ Q n N) (M : Int32) : mK0_nextSet S (nI N) M = if M ≤ nI n then some (-1) else some (firstQ (n + 1)) := by
  have hn := Inc_N hi
  unfold mK0_nextSet
  rw [packC hN hn ?_ ?_]
  · unfold mK0_nextSet_A2
    rw [nI_sub hn, bd1v, if_pos ?_]
    · rw [nIs]; rfl
    · refine b_ext fun i hi => ?_
      rw [b_and, mask_all _ (by omega) i hi, b_0]
      by_cases e : i < N - n
      · rw [hS.2 i (by omega), ofQ_f fun k hk q => by rw [hl k hk] at q; omega]; rfl
      · rw [decide_eq_false e, Bool.and_false]
  · intro i hi'
    rw [hS.2 _ (by omega)]
    exact ofQ_t.mpr ⟨n - 1 - i, by omega, by rw [hl _ (by omega)]; omega⟩
  · intro hlt
    rw [hS.2 _ (by omega)]
    exact ofQ_f fun k hk q => by rw [hl k hk] at q; omega
set_option maxHeartbeats 1000000 in
theorem nextC_mov {S : Int32} {Q : Nat → Nat} {n N k : Nat} (hN : N ≤ 12) (hS : SQ S Q n) (hi : Inc Q n N) (hm : movQ Q n N k) (M : Int32) : ∃ S', mK0_nextSet S (nI N) M = some S' ∧ SQ S' (goQ Q k) n ∧ (∀ i, i < Q k → bt S' i = bt S i) ∧ bt S (Q k) = true ∧ bt S' (Q k) = false := by
  have hn := Inc_N hi
  have hgo := goQ_Inc hi hm
  obtain ⟨k1, k2, k3⟩ := hm
  have hQk := hi.1 k k1
  unfold mK0_nextSet
  rw [packC (pk := n - 1 - k) hN (by omega) ?_ ?_]
  · unfold mK0_nextSet_A2
    rw [nI_sub (by omega), bd1v]
    have hrest : ∀ i, i < 32 → bt (S &&& (((1 : Int32) <<< (nI (N - (n - 1 - k)) &&& 31)) - 1)) i = (decide (i < 12) && ofQ Q (k + 1) i) := by
      intro i h32
      rw [b_and, mask_all _ (by omega) i h32]
      by_cases e12 : i < 12
      · rw [decide_eq_true e12, Bool.true_and, hS.2 i e12]
        by_cases e : i < N - (n - 1 - k)
        · rw [decide_eq_true e, Bool.and_true, Bool.eq_iff_iff, ofQ_t, ofQ_t]
          constructor
          · rintro ⟨j, hj, ej⟩
            refine ⟨j, ?_, ej⟩
            rcases Nat.lt_or_ge k j with q | q
            · have := k2 j q hj; omega
            · omega
          · rintro ⟨j, hj, ej⟩
            exact ⟨j, by omega, ej⟩
        · rw [decide_eq_false e, Bool.and_false]
          refine (ofQ_f fun j hj q => ?_).symm
          rcases Nat.lt_or_ge j k with q2 | q2
          · have := hi.2 j k q2 k1; omega
          · have : j = k := by omega
            subst this; omega
      · rw [decide_eq_false e12, hS.1 i (by omega) h32]; rfl
    generalize hR : S &&& (((1 : Int32) <<< (nI (N - (n - 1 - k)) &&& 31)) - 1) = R at hrest
    have hRs : sm R := fun i a b => by rw [hrest i b, decide_eq_false (by omega)]; rfl
    have hRk : bt R (Q k) = true := by rw [hrest _ (by omega), decide_eq_true (by omega), Bool.true_and]; exact ofQ_t.mpr ⟨k, by omega, rfl⟩
    have hR0 : ¬ R = 0 := fun q => by rw [q, b_0] at hRk; cases hRk
    obtain ⟨m, m1, m2, m3, m4⟩ := hiB hRs hR0
    have hmk : m = Q k := by
      rw [hrest m (by omega), decide_eq_true m1, Bool.true_and, ofQ_t] at m3
      obtain ⟨j, hj, ej⟩ := m3
      rcases Nat.lt_or_ge m (Q k) with q | q
      · have := m4 (Q k) (by omega) q
        rw [hRk] at this; cases this
      · rcases Nat.lt_or_ge j k with q2 | q2
        · have := hi.2 j k q2 k1; omega
        · rw [← ej, show j = k by omega]
    subst hmk
    rw [if_neg hR0, m2, bd1v, show (31 : Int32) - nI (31 - Q k) = nI (Q k) by rw [nn31, nI_sub (by omega), show 31 - (31 - Q k) = Q k by omega], bd1v, nIs, nIs, bd1v]
    have hbits : ∀ i, i < 32 → bt ((R &&& (((1 : Int32) <<< (nI (Q k) &&& 31)) ^^^ (-1))) ||| ((((1 : Int32) <<< (nI (n - 1 - k + 1) &&& 31)) - 1) <<< (nI (Q k + 1) &&& 31))) i = ((decide (i < 12) && ofQ Q k i) || (decide (Q k + 1 ≤ i) && decide (i - (Q k + 1) < n - 1 - k + 1))) := by
      intro i h32
      rw [b_or, b_and, sm_not _ i h32, bt_one (by omega) h32, b_shl _ (by omega) _ h32, mask_all _ (by omega) _ (by omega), hrest i h32]
      congr 1
      show (decide (i < 12) && (ofQ Q k i || (Q k == i)) && !decide (i = Q k)) = _
      by_cases e : i = Q k
      · have hz : ofQ Q k i = false := ofQ_f fun j hj q => by have := hi.2 j k hj k1; omega
        rw [decide_eq_true e, hz]; simp
      · rw [decide_eq_false e, show (Q k == i) = false by simpa using fun q => e q.symm]; simp
    refine ⟨_, rfl, ⟨?_, ?_⟩, ?_, ?_, ?_⟩
    · intro i a b
      rw [hbits i b, decide_eq_false (show ¬ i < 12 by omega), decide_eq_false (show ¬ i - (Q k + 1) < n - 1 - k + 1 by omega)]; simp
    · intro i h12
      rw [hbits i (by omega), decide_eq_true h12, Bool.true_and, Bool.eq_iff_iff, ofQ_t, Bool.or_eq_true, ofQ_t, Bool.and_eq_true, decide_eq_true_eq, decide_eq_true_eq]
      unfold goQ
      constructor
      · rintro (⟨j, hj, ej⟩ | ⟨a, b⟩)
        · exact ⟨j, by omega, by rw [if_pos hj]; exact ej⟩
        · exact ⟨k + (i - (Q k + 1)), by omega, by rw [if_neg (by omega)]; omega⟩
      · rintro ⟨j, hj, ej⟩
        by_cases e : j < k
        · rw [if_pos e] at ej
          exact Or.inl ⟨j, e, ej⟩
        · rw [if_neg e] at ej
          exact Or.inr ⟨by omega, by omega⟩
    · intro i hlt
      rw [hbits i (by omega), decide_eq_true (show i < 12 by omega), Bool.true_and, decide_eq_false (show ¬ Q k + 1 ≤ i by omega), Bool.false_and, Bool.or_false, hS.2 i (by omega), Bool.eq_iff_iff, ofQ_t, ofQ_t]
      constructor
      · rintro ⟨j, hj, ej⟩; exact ⟨j, by omega, ej⟩
      · rintro ⟨j, hj, ej⟩
        refine ⟨j, ?_, ej⟩
        rcases Nat.lt_or_ge j k with q | q
        · exact q
        · rcases Nat.eq_or_lt_of_le q with q2 | q2
          · subst q2; omega
          · have := hi.2 k j q2 hj; omega
    · rw [hS.2 _ (by omega)]; exact ofQ_t.mpr ⟨k, k1, rfl⟩
    · rw [hbits _ (by omega), decide_eq_false (show ¬ Q k + 1 ≤ Q k by omega), ofQ_f fun j hj q => by have := hi.2 j k hj k1; omega]; simp
  · intro i hi'
    rw [hS.2 _ (by omega)]
    exact ofQ_t.mpr ⟨n - 1 - i, by omega, by rw [k2 _ (by omega) (by omega)]; omega⟩
  · intro hlt
    rw [hS.2 _ (by omega)]
    refine ofQ_f fun j hj q => ?_
    rcases Nat.lt_or_ge k j with q2 | q2
    · have := k2 j q2 hj; omega
    · rcases Nat.eq_or_lt_of_le q2 with q3 | q3
      · subst q3; omega
      · have := hi.2 j k q3 k1; omega
