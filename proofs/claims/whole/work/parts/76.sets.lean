/-! own rows: members, weights, sizes of sets; a set that has a found one within -/
def nthF (f : Nat → Bool) : Nat → Nat → Nat → Option Nat
  | 0, _, _ => none
  | m + 1, i, l => if f i = true then (if l = 0 then some i else nthF f m (i + 1) (l - 1)) else nthF f m (i + 1) l
def oI : Option Nat → Int32
  | some k => nI k
  | none => -2
theorem pred0 {l : Nat} (h : ¬ l = 0) : nI l + (-1) = nI (l - 1) := by
  obtain ⟨q, rfl⟩ : ∃ q, l = q + 1 := ⟨l - 1, by omega⟩
  rw [pk_m1]
  rfl
theorem nI_z {l : Nat} (h : l < 2 ^ 31) : nI l = 0 ↔ l = 0 := by rw [nn0]; exact nI_eq h (by omega)
set_option maxHeartbeats 1000000 in
theorem nthMemC {S : Int32} {l : Nat} (hl : l < 2 ^ 31) : mK0_nthMember S (nI l) = some (oI (nthF (bt S) 12 0 l)) := by
  unfold mK0_nthMember
  refine lpU (S := Int32) (fun f i st => mK0_nthMember_L4 S mK0_nthMember_A4 f st (nI i)) (fun o => o = some (oI (nthF (bt S) 12 0 l))) 12
    (fun i st => ∃ q, st = nI q ∧ q < 2 ^ 31 ∧ nthF (bt S) (12 - i) i q = nthF (bt S) 12 0 l) ?_ ?_ 5000 0 (nI l) (by omega) (by omega) ⟨l, rfl, hl, rfl⟩
  · rintro f st ⟨q, rfl, hq, e⟩
    show mK0_nthMember_B4 S mK0_nthMember_A4 _ (nI q) (nI 12) = _
    unfold mK0_nthMember_B4
    rw [if_pos ((le12 (by omega)).mpr (by omega)), ← e]
    rfl
  · rintro f i st hi ⟨q, rfl, hq, e⟩
    have hgo : ¬ (12 : Int32) ≤ nI i := fun q => by rw [le12 (by omega)] at q; omega
    rw [show 12 - i = (12 - (i + 1)) + 1 by omega, nthF] at e
    cases hb : bt S i with
    | false =>
      right
      rw [hb, if_neg (by decide)] at e
      refine ⟨nI q, ⟨q, rfl, hq, e⟩, ?_⟩
      show mK0_nthMember_B4 S mK0_nthMember_A4 (mK0_nthMember_L4 S mK0_nthMember_A4 f) (nI q) (nI i) = _
      unfold mK0_nthMember_B4
      rw [if_neg hgo, hasM (by omega), bd1v, hb, if_pos bI_f, nIs, bd1v]
    | true =>
      rw [hb, if_pos rfl] at e
      by_cases h0 : q = 0
      · left
        rw [if_pos h0] at e
        show mK0_nthMember_B4 S mK0_nthMember_A4 _ (nI q) (nI i) = _
        unfold mK0_nthMember_B4
        rw [if_neg hgo, hasM (by omega), bd1v, hb, if_neg (by decide), if_pos ((nI_z hq).mpr h0), ← e]
        rfl
      · right
        rw [if_neg h0] at e
        refine ⟨nI (q - 1), ⟨q - 1, rfl, by omega, e⟩, ?_⟩
        show mK0_nthMember_B4 S mK0_nthMember_A4 (mK0_nthMember_L4 S mK0_nthMember_A4 f) (nI q) (nI i) = _
        unfold mK0_nthMember_B4
        rw [if_neg hgo, hasM (by omega), bd1v, hb, if_neg (by decide), if_neg (fun z => h0 ((nI_z hq).mp z)), pred0 h0, bd1v, nIs, bd1v]
set_option maxHeartbeats 1000000 in
theorem nthMemN {S k : Int32} (hk : k < 0) : mK0_nthMember S k = some (-2) := by
  unfold mK0_nthMember
  refine lpU (S := Int32) (fun f i st => mK0_nthMember_L4 S mK0_nthMember_A4 f st (nI i)) (fun o => o = some (-2)) 12
    (fun i st => ∃ d, d ≤ i ∧ st + nI d = k) ?_ ?_ 5000 0 k (by omega) (by omega) ⟨0, by omega, by rw [nI_0, Int32.add_zero]⟩
  · rintro f st -
    show mK0_nthMember_B4 S mK0_nthMember_A4 _ st (nI 12) = _
    unfold mK0_nthMember_B4
    rw [if_pos ((le12 (by omega)).mpr (by omega))]
    rfl
  · rintro f i st hi ⟨d, hd, e⟩
    have hgo : ¬ (12 : Int32) ≤ nI i := fun q => by rw [le12 (by omega)] at q; omega
    have hz : ¬ st = 0 := fun q => by
      rw [q, Int32.zero_add] at e
      rw [← e] at hk
      exact nI_pos (by omega) hk
    right
    cases hb : bt S i with
    | false =>
      refine ⟨st, ⟨d, by omega, e⟩, ?_⟩
      show mK0_nthMember_B4 S mK0_nthMember_A4 (mK0_nthMember_L4 S mK0_nthMember_A4 f) st (nI i) = _
      unfold mK0_nthMember_B4
      rw [if_neg hgo, hasM (by omega), bd1v, hb, if_pos bI_f, nIs, bd1v]
    | true =>
      refine ⟨st + (-1), ⟨d + 1, by omega, ?_⟩, ?_⟩
      · rw [Int32.add_assoc, Int32.add_comm (-1), pk_m1]; exact e
      · show mK0_nthMember_B4 S mK0_nthMember_A4 (mK0_nthMember_L4 S mK0_nthMember_A4 f) st (nI i) = _
        unfold mK0_nthMember_B4
        rw [if_neg hgo, hasM (by omega), bd1v, hb, if_neg (by decide), if_neg hz, bd1v, nIs, bd1v]
set_option maxHeartbeats 1000000 in
theorem memR {S : Int32} {l : Nat} (hl : l < 2 ^ 31) : mK5_member S (nI l) = some (oI (nthF (bt S) 12 0 l)) := by
  unfold mK5_member
  have hneg : ¬ nI l < 0 := nI_pos hl
  refine lpU (S := Int32) (fun f i st => mK5_member_L4 S (nI l) mK5_member_A4 f st (nI i)) (fun o => o = some (oI (nthF (bt S) 12 0 l))) 12
    (fun i st => ∃ q, st = nI q ∧ q < 2 ^ 31 ∧ nthF (bt S) (12 - i) i q = nthF (bt S) 12 0 l) ?_ ?_ 5000 0 (nI l) (by omega) (by omega) ⟨l, rfl, hl, rfl⟩
  · rintro f st ⟨q, rfl, hq, e⟩
    show mK5_member_B4 S (nI l) mK5_member_A4 _ (nI q) (nI 12) = _
    unfold mK5_member_B4
    rw [if_pos ((le12 (by omega)).mpr (by omega)), ← e]
    rfl
  · rintro f i st hi ⟨q, rfl, hq, e⟩
    have hgo : ¬ (12 : Int32) ≤ nI i := fun q => by rw [le12 (by omega)] at q; omega
    rw [show 12 - i = (12 - (i + 1)) + 1 by omega, nthF] at e
    cases hb : bt S i with
    | false =>
      right
      rw [hb, if_neg (by decide)] at e
      refine ⟨nI q, ⟨q, rfl, hq, e⟩, ?_⟩
      show mK5_member_B4 S (nI l) mK5_member_A4 (mK5_member_L4 S (nI l) mK5_member_A4 f) (nI q) (nI i) = _
      unfold mK5_member_B4
      rw [if_neg hgo, if_neg hneg, if_neg (fun z => by rw [bit1 (by omega), hb] at z; cases z), nIs, bd1v]
    | true =>
      rw [hb, if_pos rfl] at e
      by_cases h0 : q = 0
      · left
        rw [if_pos h0] at e
        show mK5_member_B4 S (nI l) mK5_member_A4 _ (nI q) (nI i) = _
        unfold mK5_member_B4
        rw [if_neg hgo, if_neg hneg, if_pos ((bit1 (by omega)).mpr hb), if_pos ((nI_z hq).mpr h0), ← e]
        rfl
      · right
        rw [if_neg h0] at e
        refine ⟨nI (q - 1), ⟨q - 1, rfl, by omega, e⟩, ?_⟩
        show mK5_member_B4 S (nI l) mK5_member_A4 (mK5_member_L4 S (nI l) mK5_member_A4 f) (nI q) (nI i) = _
        unfold mK5_member_B4
        rw [if_neg hgo, if_neg hneg, if_pos ((bit1 (by omega)).mpr hb), if_neg (fun z => h0 ((nI_z hq).mp z)), pred0 h0, bd1v, nIs, bd1v]
theorem memN {S k : Int32} (hk : k < 0) : mK5_member S k = some (-2) := by
  unfold mK5_member
  show mK5_member_B4 S k mK5_member_A4 _ k (nI 0) = _
  unfold mK5_member_B4
  rw [if_neg (by decide), if_pos hk]
  rfl
theorem nth_same (S k : Int32) : ∃ r, mK0_nthMember S k = some r ∧ mK5_member S k = some r := by
  by_cases hk : k < 0
  · exact ⟨-2, nthMemN hk, memN hk⟩
  · obtain ⟨l, hl, rfl⟩ := nI_of hk
    exact ⟨_, nthMemC hl, memR hl⟩
/-- the sum of weights -/
def wsum (V : Nat → Nat) (S : Int32) : Nat → Nat
  | 0 => 0
  | n + 1 => wsum V S n + if bt S n = true then V n else 0
theorem wsum_le {V : Nat → Nat} {S : Int32} : ∀ {n : Nat}, (∀ c, c < n → V c ≤ 9) → wsum V S n ≤ 9 * n
  | 0, _ => Nat.le_refl 0
  | n + 1, h => by
    have h1 := wsum_le (V := V) (S := S) (n := n) (fun c hc => h c (by omega))
    have h2 := h n (by omega)
    rw [wsum]
    split <;> omega
set_option maxHeartbeats 1000000 in
theorem weightC {pu co we : Nat → Int32} {U : Nat → Bool} {C V : Nat → Nat} {n : Nat} (hc : CHr pu co we U C V n) (hn : n ≤ 12) (S : Int32) : mK3_weightOf (nI n) we S = some (nI (wsum V S n)) := by
  unfold mK3_weightOf
  refine lpU (S := Int32) (fun f i st => mK3_weightOf_L4 (nI n) we S mK3_weightOf_A4 f st (nI i)) (fun o => o = some (nI (wsum V S n))) n (fun i st => st = nI (wsum V S i)) ?_ ?_ 5000 0 0 (by omega) (by omega) rfl
  · rintro f st rfl
    show mK3_weightOf_B4 (nI n) we S mK3_weightOf_A4 _ _ (nI n) = _
    unfold mK3_weightOf_B4
    rw [if_pos (nI_le (Nat.le_refl n) (by omega))]
    rfl
  · rintro f i st hi rfl
    right
    have hgo : ¬ nI n ≤ nI i := fun q => by rw [nI_leI (by omega) (by omega)] at q; omega
    refine ⟨nI (wsum V S (i + 1)), rfl, ?_⟩
    show mK3_weightOf_B4 (nI n) we S mK3_weightOf_A4 (mK3_weightOf_L4 (nI n) we S mK3_weightOf_A4 f) _ (nI i) = _
    unfold mK3_weightOf_B4
    rw [if_neg hgo, hasM (by omega), bd1v, wsum]
    cases hb : bt S i with
    | false => rw [if_pos bI_f, nIs, bd1v]; rfl
    | true => rw [if_neg (by decide), rdN (by omega) (by decide), bd1v, (hc i hi).2.2.1, nI_add, bd1v, nIs, bd1v]; rfl
theorem wsum_ext {V : Nat → Nat} {S : Int32} {n : Nat} : ∀ {k : Nat}, n ≤ k → (∀ c, n ≤ c → c < k → bt S c = false) → wsum V S k = wsum V S n
  | 0, h, _ => by rw [show n = 0 by omega]
  | k + 1, h, hz => by
    rcases Nat.lt_or_ge k n with a | a
    · rw [show n = k + 1 by omega]
    · rw [wsum, wsum_ext a (fun c h1 h2 => hz c h1 (by omega)), hz k a (by omega)]; rfl
set_option maxHeartbeats 1000000 in
theorem weightR {pu co we : Nat → Int32} {U : Nat → Bool} {C V : Nat → Nat} {n : Nat} (hc : CHr pu co we U C V n) (hn : n ≤ 12) {S : Int32} (hS : ∀ c, n ≤ c → c < 12 → bt S c = false) : mK5_weightOf we S = some (nI (wsum V S n)) := by
  rw [← wsum_ext hn hS]
  unfold mK5_weightOf
  refine lpU (S := Int32) (fun f i st => mK5_weightOf_L4 we S mK5_weightOf_A4 f st (nI i)) (fun o => o = some (nI (wsum V S 12))) 12 (fun i st => st = nI (wsum V S i)) ?_ ?_ 5000 0 0 (by omega) (by omega) rfl
  · rintro f st rfl
    show mK5_weightOf_B4 we S mK5_weightOf_A4 _ _ (nI 12) = _
    unfold mK5_weightOf_B4
    rw [if_pos ((le12 (by omega)).mpr (by omega))]
    rfl
  · rintro f i st hi rfl
    right
    have hgo : ¬ (12 : Int32) ≤ nI i := fun q => by rw [le12 (by omega)] at q; omega
    refine ⟨nI (wsum V S (i + 1)), rfl, ?_⟩
    show mK5_weightOf_B4 we S mK5_weightOf_A4 (mK5_weightOf_L4 we S mK5_weightOf_A4 f) _ (nI i) = _
    unfold mK5_weightOf_B4
    rw [if_neg hgo, wsum]
    cases hb : bt S i with
    | false => rw [if_neg (fun z => by rw [bit1 (by omega), hb] at z; cases z), nn0, nI_add, bd1v, nIs, bd1v]; rfl
    | true =>
      have hin : i < n := by
        rcases Nat.lt_or_ge i n with a | a
        · exact a
        · rw [hS i a hi] at hb; cases hb
      rw [if_pos ((bit1 (by omega)).mpr hb), rdN hi (by decide), bd1v, (hc i hin).2.2.1, nI_add, bd1v, nIs, bd1v]; rfl
theorem bit01 {x : Int32} {i : Nat} (hi : i < 32) : ((x >>> (nI i &&& 31)) &&& 1) = nI (if bt x i = true then 1 else 0) := by
  cases hb : bt x i with
  | true => rw [(bit1 hi).mpr hb]; rfl
  | false =>
    have h0 : bt (x >>> (nI i &&& 31)) 0 = bt x i := by rw [b_sshr i hi x (by omega), if_pos (by omega)]; rfl
    rw [and1.mpr (by rw [h0, hb])]; rfl
set_option maxHeartbeats 1000000 in
theorem sizeR (S : Int32) : mK5_sizeOf S = some (nI (cntB (bt S) 12)) := by
  unfold mK5_sizeOf
  refine lpU (S := Int32) (fun f i st => mK5_sizeOf_L4 S mK5_sizeOf_A4 f st (nI i)) (fun o => o = some (nI (cntB (bt S) 12))) 12 (fun i st => st = nI (cntB (bt S) i)) ?_ ?_ 5000 0 0 (by omega) (by omega) rfl
  · rintro f st rfl
    show mK5_sizeOf_B4 S mK5_sizeOf_A4 _ _ (nI 12) = _
    unfold mK5_sizeOf_B4
    rw [if_pos ((le12 (by omega)).mpr (by omega))]
    rfl
  · rintro f i st hi rfl
    right
    refine ⟨nI (cntB (bt S) (i + 1)), rfl, ?_⟩
    show mK5_sizeOf_B4 S mK5_sizeOf_A4 (mK5_sizeOf_L4 S mK5_sizeOf_A4 f) _ (nI i) = _
    unfold mK5_sizeOf_B4
    rw [if_neg (fun q => by rw [le12 (by omega)] at q; omega), bit01 (by omega), nI_add, bd1v, nIs, bd1v]
    rfl
/-- one set lies within another -/
theorem within_iff (x v : Int32) : (x &&& (v ^^^ (-1))) = 0 ↔ (x &&& v) = x := by
  constructor
  · intro h
    refine b_ext fun i hi => ?_
    have h1 : bt (x &&& (v ^^^ (-1))) i = bt 0 i := by rw [h]
    rw [b_and, sm_not v i hi, b_0] at h1
    rw [b_and]
    cases hx : bt x i <;> cases hv : bt v i <;> simp_all
  · intro h
    refine b_ext fun i hi => ?_
    have h1 : bt (x &&& v) i = bt x i := by rw [h]
    rw [b_and] at h1
    rw [b_and, sm_not v i hi, b_0]
    cases hx : bt x i <;> cases hv : bt v i <;> simp_all
def anyB (f : Nat → Bool) : Nat → Bool
  | 0 => false
  | n + 1 => anyB f n || f n
theorem anyB_t {f : Nat → Bool} : ∀ {n : Nat}, anyB f n = true ↔ ∃ i, i < n ∧ f i = true
  | 0 => by
    constructor
    · intro h
      exact absurd h (by simp [anyB])
    · rintro ⟨i, h, _⟩
      exact absurd h (by omega)
  | n + 1 => by
    rw [anyB, Bool.or_eq_true, anyB_t]
    constructor
    · rintro (⟨i, h1, h2⟩ | h)
      · exact ⟨i, by omega, h2⟩
      · exact ⟨n, by omega, h⟩
    · rintro ⟨i, h1, h2⟩
      rcases Nat.lt_or_ge i n with a | a
      · exact Or.inl ⟨i, a, h2⟩
      · exact Or.inr (by rw [← show i = n by omega]; exact h2)
set_option maxHeartbeats 1000000 in
theorem partC {fse : Nat → Int32} {n : Nat} (hn : n ≤ 30) (S : Int32) : mK4_hasPartOf (nI n) fse S = some (bI (anyB (fun i => decide (fse i &&& S = fse i)) n)) := by
  unfold mK4_hasPartOf
  refine lpU (S := Unit) (fun f i _ => mK4_hasPartOf_L2 (nI n) fse S mK4_hasPartOf_A2 f (nI i)) (fun o => o = some (bI (anyB (fun i => decide (fse i &&& S = fse i)) n))) n (fun i _ => anyB (fun i => decide (fse i &&& S = fse i)) i = false) ?_ ?_ 5000 0 () (by omega) (by omega) rfl
  · rintro f - h
    show mK4_hasPartOf_B2 (nI n) fse S mK4_hasPartOf_A2 _ (nI n) = _
    unfold mK4_hasPartOf_B2
    rw [if_pos (nI_le (Nat.le_refl n) (by omega)), h]
    rfl
  · rintro f i - hi h
    have hgo : ¬ nI n ≤ nI i := fun q => by rw [nI_leI (by omega) (by omega)] at q; omega
    by_cases e : fse i &&& S = fse i
    · left
      rw [anyB_t.mpr ⟨i, hi, decide_eq_true e⟩]
      show mK4_hasPartOf_B2 (nI n) fse S mK4_hasPartOf_A2 _ (nI i) = _
      unfold mK4_hasPartOf_B2
      rw [if_neg hgo, rdN (by omega) (by decide), bd1v, if_pos ((within_iff _ _).mpr e)]
      rfl
    · right
      refine ⟨(), by rw [anyB, h, decide_eq_false e]; rfl, ?_⟩
      show mK4_hasPartOf_B2 (nI n) fse S mK4_hasPartOf_A2 (mK4_hasPartOf_L2 (nI n) fse S mK4_hasPartOf_A2 f) (nI i) = _
      unfold mK4_hasPartOf_B2
      rw [if_neg hgo, rdN (by omega) (by decide), bd1v, if_neg (fun z => e ((within_iff _ _).mp z)), nIs, bd1v]
set_option maxHeartbeats 1000000 in
theorem partR {ms : Nat → Int32} {n : Nat} (hn : n ≤ 30) (S : Int32) : mK5_hasOneWithin (nI n) ms S = some (bI (anyB (fun i => decide (ms i &&& S = ms i)) n)) := by
  unfold mK5_hasOneWithin
  refine lpU (S := Int32) (fun f i st => mK5_hasOneWithin_L4 (nI n) ms S mK5_hasOneWithin_A4 f st (nI i)) (fun o => o = some (bI (anyB (fun i => decide (ms i &&& S = ms i)) n))) n (fun i st => st = bI (anyB (fun i => decide (ms i &&& S = ms i)) i)) ?_ ?_ 5000 0 0 (by omega) (by omega) rfl
  · rintro f st rfl
    show mK5_hasOneWithin_B4 (nI n) ms S mK5_hasOneWithin_A4 _ _ (nI n) = _
    unfold mK5_hasOneWithin_B4
    rw [if_pos (nI_le (Nat.le_refl n) (by omega))]
    unfold mK5_hasOneWithin_A4
    rw [bz_bI, bd1v]
  · rintro f i st hi rfl
    right
    have hgo : ¬ nI n ≤ nI i := fun q => by rw [nI_leI (by omega) (by omega)] at q; omega
    refine ⟨_, rfl, ?_⟩
    show mK5_hasOneWithin_B4 (nI n) ms S mK5_hasOneWithin_A4 (mK5_hasOneWithin_L4 (nI n) ms S mK5_hasOneWithin_A4 f) _ (nI i) = _
    unfold mK5_hasOneWithin_B4
    rw [if_neg hgo, anyB]
    cases hb : anyB (fun i => decide (ms i &&& S = ms i)) i with
    | true => rw [if_neg (by decide), nIs, bd1v]; rfl
    | false =>
      rw [if_pos bI_f, rdN (by omega) (by decide), bd1v, bd1v]
      by_cases e : ms i &&& S = ms i
      · rw [if_pos e, nIs, bd1v, decide_eq_true e]; rfl
      · rw [if_neg e, nIs, bd1v, decide_eq_false e]; rfl
