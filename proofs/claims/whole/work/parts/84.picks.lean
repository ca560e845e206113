/-! own rows: the reference's picks; the order of the sets, and a set's place in it -/
set_option maxHeartbeats 1000000 in
theorem firstR (pi : Nat → Int32) {n : Nat} (hn : n ≤ 12) : ∃ pi', mK5_first pi (nI n) = some pi' ∧ PQ pi' id n := by
  unfold mK5_first
  refine lpU (S := Nat → Int32) (fun f i st => mK5_first_L2 (nI n) mK5_first_A2 f (nI i) st) (fun o => ∃ pi', o = some pi' ∧ PQ pi' id n) n (fun i st => ∀ k, k < i → st k = nI k) ?_ ?_ 5000 0 pi (by omega) (by omega) (fun k hk => absurd hk (by omega))
  · intro f st h
    refine ⟨st, ?_, h⟩
    show mK5_first_B2 (nI n) mK5_first_A2 _ (nI n) st = _
    unfold mK5_first_B2
    rw [if_pos (nI_le (Nat.le_refl n) (by omega))]
    rfl
  · intro f i st hi h
    right
    refine ⟨upd st i (nI i), fun k hk => ?_, ?_⟩
    · by_cases e : k = i
      · rw [e, upd_s]
      · rw [upd_n e]; exact h k (by omega)
    · show mK5_first_B2 (nI n) mK5_first_A2 (mK5_first_L2 (nI n) mK5_first_A2 f) (nI i) st = _
      unfold mK5_first_B2
      rw [if_neg (fun w => by rw [nI_leI (by omega) (by omega)] at w; omega), wrtN (by omega) (by decide), bd1v, nIs, bd1v]
set_option maxHeartbeats 1000000 in
theorem setOfR {pi : Nat → Int32} {Q : Nat → Nat} {n : Nat} (hn : n ≤ 12) (hp : PQ pi Q n) (hq : ∀ k, k < n → Q k < 12) {S : Int32} (hS : SQ S Q n) : mK5_setOf pi (nI n) = some S := by
  unfold mK5_setOf
  refine lpU (S := Int32) (fun f i st => mK5_setOf_L4 pi (nI n) mK5_setOf_A4 f st (nI i)) (fun o => o = some S) n (fun i st => SQ st Q i) ?_ ?_ 5000 0 0 (by omega) (by omega) ⟨sm_0, fun i _ => by rw [b_0]; rfl⟩
  · intro f st h
    show mK5_setOf_B4 pi (nI n) mK5_setOf_A4 _ st (nI n) = _
    unfold mK5_setOf_B4
    rw [if_pos (nI_le (Nat.le_refl n) (by omega)), sm_ext h.1 hS.1 (fun i hi => by rw [h.2 i hi, hS.2 i hi])]
    rfl
  · intro f i st hi h
    right
    refine ⟨st ||| ((1 : Int32) <<< (nI (Q i) &&& 31)), ⟨sm_or h.1 (sm_one (hq i hi)), fun j hj => ?_⟩, ?_⟩
    · rw [b_or, h.2 j hj, bt_one (by have := hq i hi; omega) (by omega)]
      show _ = (ofQ Q i j || (Q i == j))
      rw [show (Q i == j) = decide (j = Q i) by rw [Bool.eq_iff_iff, beq_iff_eq, decide_eq_true_eq]; exact eq_comm]
    · show mK5_setOf_B4 pi (nI n) mK5_setOf_A4 (mK5_setOf_L4 pi (nI n) mK5_setOf_A4 f) st (nI i) = _
      unfold mK5_setOf_B4
      rw [if_neg (fun w => by rw [nI_leI (by omega) (by omega)] at w; omega), rdN (by omega) (by decide), bd1v, hp i hi, bd1v, nIs, bd1v]
def kk (n i : Nat) : Int32 := if i < n then nI (n - 1 - i) else -1
theorem kk_s {n i : Nat} (h : i < n) : kk n i + (-1) = kk n (i + 1) := by
  unfold kk
  rw [if_pos h]
  by_cases e : i + 1 < n
  · rw [if_pos e, pred0 (by omega), show n - 1 - i - 1 = n - 1 - (i + 1) by omega]
  · rw [if_neg e, show n - 1 - i = 0 by omega]
    rfl
set_option maxHeartbeats 1000000 in
/-- the walk down over the picks at the top -/
theorem nextR_walk {pi : Nat → Int32} {Q : Nat → Nat} {n N c : Nat} (hN : N ≤ 12) (hn : n ≤ N) (hp : PQ pi Q n) (hi : Inc Q n N) (hc : c ≤ n) (h1 : ∀ j, n - c ≤ j → j < n → Q j = N - n + j) (h2 : c < n → ¬ Q (n - 1 - c) = N - n + (n - 1 - c)) (hn1 : 1 ≤ n) (kx : Int32 → Option (Int32 × (Nat → Int32))) : mK5_next_L4 (nI N) pi (nI n) kx 5000 (nI n - 1) = kx (kk n c) := by
  have e0 : nI n - 1 = kk n 0 := by
    unfold kk
    rw [if_pos (by omega), nn1, nI_sub (by omega)]
    rfl
  rw [e0]
  refine lpU (S := Unit) (fun f i _ => mK5_next_L4 (nI N) pi (nI n) kx f (kk n i)) (fun o => o = kx (kk n c)) c (fun _ _ => True) ?_ ?_ 5000 0 () (by omega) (by omega) trivial
  · intro f _ _
    show mK5_next_B4 (nI N) pi (nI n) kx _ (kk n c) = _
    unfold mK5_next_B4
    by_cases e : c < n
    · have hk : kk n c = nI (n - 1 - c) := if_pos e
      have := hi.1 (n - 1 - c) (by omega)
      rw [hk, if_neg (nI_pos (by omega)), rdN (by omega) (by decide), bd1v, hp _ (by omega), nI_sub hn, nI_add, if_neg (fun q => h2 e ((nI_eq (by omega) (by omega)).mp q))]
    · have hk : kk n c = -1 := if_neg e
      rw [hk, if_pos (by decide)]
  · intro f i _ hlt _
    right
    refine ⟨(), trivial, ?_⟩
    show mK5_next_B4 (nI N) pi (nI n) kx (mK5_next_L4 (nI N) pi (nI n) kx f) (kk n i) = _
    have hk : kk n i = nI (n - 1 - i) := if_pos (by omega)
    unfold mK5_next_B4
    rw [← kk_s (by omega : i < n), hk, if_neg (nI_pos (by omega)), rdN (by omega) (by decide), bd1v, hp _ (by omega), h1 (n - 1 - i) (by omega) (by omega), nI_sub hn, nI_add, if_pos rfl, bd1v]
theorem nextR_last {pi : Nat → Int32} {Q : Nat → Nat} {n N : Nat} (hN : N ≤ 12) (hn1 : 1 ≤ n) (hp : PQ pi Q n) (hi : Inc Q n N) (hl : lastQ Q n N) : mK5_next (nI N) pi (nI n) = some (0, pi) := by
  unfold mK5_next
  rw [bd1v, nextR_walk (c := n) hN (Inc_N hi) hp hi (Nat.le_refl n) (fun j _ hj => hl j hj) (fun q => absurd q (by omega)) hn1]
  unfold mK5_next_A4
  rw [show kk n n = -1 from if_neg (by omega), if_neg (by decide)]
set_option maxHeartbeats 1000000 in
theorem nextR_mov {pi : Nat → Int32} {Q : Nat → Nat} {n N k : Nat} (hN : N ≤ 12) (hp : PQ pi Q n) (hi : Inc Q n N) (hm : movQ Q n N k) : ∃ pi', mK5_next (nI N) pi (nI n) = some (1, pi') ∧ PQ pi' (goQ Q k) n := by
  obtain ⟨k1, k2, k3⟩ := hm
  have hn := Inc_N hi
  have hQk := hi.1 k k1
  unfold mK5_next
  rw [bd1v, nextR_walk (c := n - 1 - k) hN hn hp hi (by omega) (fun j a b => k2 j (by omega) b) (fun _ => by rw [show n - 1 - (n - 1 - k) = k by omega]; omega) (by omega)]
  unfold mK5_next_A4
  rw [show kk n (n - 1 - k) = nI k by unfold kk; rw [if_pos (by omega), show n - 1 - (n - 1 - k) = k by omega], if_pos (nI_pos' (by omega)), rdN (by omega) (by decide), bd1v, hp k k1, nIs, wrtN (by omega) (by decide), bd1v, nIs, bd1v]
  refine lpU (S := Nat → Int32) (fun f i st => mK5_next_L51 (nI n) mK5_next_A51 f (nI (k + 1 + i)) st) (fun o => ∃ pi', o = some (1, pi') ∧ PQ pi' (goQ Q k) n) (n - (k + 1)) (fun i st => ∀ j, j < n → j < k + 1 + i → st j = nI (goQ Q k j)) ?_ ?_ 5000 0 _ (by omega) (by omega) ?_
  · intro f st h
    refine ⟨st, ?_, fun j hj => h j hj (by omega)⟩
    show mK5_next_B51 (nI n) mK5_next_A51 _ (nI (k + 1 + (n - (k + 1)))) st = _
    unfold mK5_next_B51
    rw [if_pos ((nI_leI (by omega) (by omega)).mpr (by omega))]
    rfl
  · intro f i st hlt h
    right
    refine ⟨upd st (k + 1 + i) (nI (goQ Q k (k + 1 + i))), fun j a b => ?_, ?_⟩
    · by_cases e : j = k + 1 + i
      · rw [e, upd_s]
      · rw [upd_n e]; exact h j a (by omega)
    · show mK5_next_B51 (nI n) mK5_next_A51 (mK5_next_L51 (nI n) mK5_next_A51 f) (nI (k + 1 + i)) st = _
      unfold mK5_next_B51
      rw [if_neg (fun w => by rw [nI_leI (by omega) (by omega)] at w; omega), nn1, nI_sub (by omega), rdN (by omega) (by decide), bd1v, h _ (by omega) (by omega), nI_add, show goQ Q k (k + 1 + i - 1) + 1 = goQ Q k (k + 1 + i) by unfold goQ; rw [if_neg (by omega), if_neg (by omega)]; omega, wrtN (by omega) (by decide), bd1v, nI_add, bd1v, Nat.add_assoc]
  · intro j a b
    by_cases e : j = k
    · rw [e, upd_s]
      unfold goQ
      rw [if_neg (by omega), Nat.sub_self]
    · rw [upd_n e, hp j a]
      unfold goQ
      rw [if_pos (by omega)]
/-- the order of the sets -/
def ltS (S T : Int32) : Prop := cntB (bt S) 12 < cntB (bt T) 12 ∨ (cntB (bt S) 12 = cntB (bt T) 12 ∧ ∃ m, m < 12 ∧ (∀ i, i < m → bt S i = bt T i) ∧ bt S m = true ∧ bt T m = false)
theorem ltS_irr (S : Int32) : ¬ ltS S S := by
  rintro (h | ⟨_, m, _, _, h1, h2⟩)
  · omega
  · rw [h1] at h2; cases h2
theorem ltS_tr {S T W : Int32} (h1 : ltS S T) (h2 : ltS T W) : ltS S W := by
  rcases h1 with h1 | ⟨e1, m1, a1, b1, c1, d1⟩
  · rcases h2 with h2 | ⟨e2, -⟩
    · exact Or.inl (by omega)
    · exact Or.inl (by omega)
  · rcases h2 with h2 | ⟨e2, m2, a2, b2, c2, d2⟩
    · exact Or.inl (by omega)
    · refine Or.inr ⟨by omega, ?_⟩
      rcases Nat.lt_trichotomy m1 m2 with q | q | q
      · exact ⟨m1, a1, fun i hi => by rw [b1 i hi, b2 i (by omega)], c1, by rw [← b2 m1 q]; exact d1⟩
      · subst q; rw [c2] at d1; cases d1
      · exact ⟨m2, a2, fun i hi => by rw [b1 i (by omega), b2 i hi], by rw [b1 m2 q]; exact c2, d2⟩
noncomputable def posS (S : Int32) : Nat := cntB (fun T => @decide (ltS (nI T) S) (Classical.propDecidable _)) 4096
theorem posS_lt {S : Int32} (hS : sm S) : posS S < 4096 := by
  have h := cntB_le (fun T => @decide (ltS (nI T) S) (Classical.propDecidable _)) 4096
  rcases Nat.eq_or_lt_of_le h with e | e
  · obtain ⟨V, hV, rfl⟩ := sm_val hS
    have := cntB_full e V hV
    exact absurd (@of_decide_eq_true _ (Classical.propDecidable _) this) (ltS_irr _)
  · exact e
theorem posS_mono {S T : Int32} (hS : sm S) (h : ltS S T) : posS S < posS T := by
  rcases Nat.lt_or_ge (posS S) (posS T) with q | q
  · exact q
  · obtain ⟨V, hV, rfl⟩ := sm_val hS
    have := cntB_same (f := fun W => @decide (ltS (nI W) (nI V)) (Classical.propDecidable _)) (g := fun W => @decide (ltS (nI W) T) (Classical.propDecidable _)) (n := 4096) (fun i _ hf => @decide_eq_true _ (Classical.propDecidable _) (ltS_tr (@of_decide_eq_true _ (Classical.propDecidable _) hf) h)) q V hV
    rw [@decide_eq_true _ (Classical.propDecidable _) h, @decide_eq_false _ (Classical.propDecidable _) (ltS_irr _)] at this
    cases this
theorem cntSQ {S : Int32} {Q : Nat → Nat} {n N : Nat} (hN : N ≤ 12) (hS : SQ S Q n) (hi : Inc Q n N) : cntB (bt S) 12 = n := by
  rw [cntB_congr (g := ofQ Q n) hS.2, cntQ hN hi]
theorem posS_mov {S S' : Int32} {Q : Nat → Nat} {n N k : Nat} (hN : N ≤ 12) (hS : SQ S Q n) (hi : Inc Q n N) (hm : movQ Q n N k) (hS' : SQ S' (goQ Q k) n) (h1 : ∀ i, i < Q k → bt S' i = bt S i) (h2 : bt S (Q k) = true) (h3 : bt S' (Q k) = false) : posS S < posS S' :=
  posS_mono hS.1 (Or.inr ⟨by rw [cntSQ hN hS hi, cntSQ hN hS' (goQ_Inc hi hm)], Q k, by have := hi.1 k hm.1; omega, fun i h => (h1 i h).symm, h2, h3⟩)
theorem posS_size {S S' : Int32} {Q Q' : Nat → Nat} {n n' N : Nat} (hN : N ≤ 12) (hS : SQ S Q n) (hi : Inc Q n N) (hS' : SQ S' Q' n') (hi' : Inc Q' n' N) (h : n < n') : posS S < posS S' :=
  posS_mono hS.1 (Or.inl (by rw [cntSQ hN hS hi, cntSQ hN hS' hi']; exact h))
