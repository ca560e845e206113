/-! rows on bits, out of kit/laws/BITS.to-paste -/
def bt (x : Int32) (i : Nat) : Bool := x.toBitVec.getLsbD i
theorem b_ext {x y : Int32} (h : ∀ i, i < 32 → bt x i = bt y i) : x = y := Int32.toBitVec_inj.mp (BitVec.eq_of_getLsbD_eq (fun i hi => h i hi))
theorem b_or (x y : Int32) (i : Nat) : bt (x ||| y) i = (bt x i || bt y i) := by unfold bt; rw [Int32.toBitVec_or, BitVec.getLsbD_or]
theorem b_and (x y : Int32) (i : Nat) : bt (x &&& y) i = (bt x i && bt y i) := by unfold bt; rw [Int32.toBitVec_and, BitVec.getLsbD_and]
theorem b_xor (x y : Int32) (i : Nat) : bt (x ^^^ y) i = (bt x i ^^ bt y i) := by unfold bt; rw [Int32.toBitVec_xor, BitVec.getLsbD_xor]
theorem b_big {x : Int32} {i : Nat} (h : 32 ≤ i) : bt x i = false := BitVec.getLsbD_of_ge _ _ h
theorem b_m1 : ∀ i, i < 32 → bt (-1) i = true := by decide +kernel
theorem b_0 (i : Nat) : bt 0 i = false := BitVec.getLsbD_zero
theorem s_l : ∀ n, n < 32 → ((nI n &&& 31).toBitVec.smod 32).toNat = n := by decide +kernel
theorem s_u : ∀ n, n < 32 → (((nI n).toUInt32 &&& Int32.toUInt32 31).toBitVec % 32).toNat = n := by decide +kernel
theorem b_shl (n : Nat) (hn : n < 32) (x : Int32) {i : Nat} (hi : i < 32) : bt (x <<< (nI n &&& 31)) i = (decide (n ≤ i) && bt x (i - n)) := by
  unfold bt
  rw [Int32.toBitVec_shiftLeft]
  show (x.toBitVec <<< ((nI n &&& 31).toBitVec.smod 32).toNat).getLsbD i = _
  rw [s_l n hn, BitVec.getLsbD_shiftLeft]
  rcases Nat.lt_or_ge i n with h | h
  · simp [h, Nat.not_le.mpr h]
  · simp [hi, h, Nat.not_lt.mpr h]
theorem b_ushr (n : Nat) (hn : n < 32) (x : Int32) (i : Nat) : bt ((x.toUInt32 >>> ((nI n).toUInt32 &&& Int32.toUInt32 31)).toInt32) i = bt x (n + i) := by
  show (x.toUInt32 >>> ((nI n).toUInt32 &&& Int32.toUInt32 31)).toBitVec.getLsbD i = x.toUInt32.toBitVec.getLsbD (n + i)
  rw [UInt32.toBitVec_shiftRight]
  show (x.toUInt32.toBitVec >>> (((nI n).toUInt32 &&& Int32.toUInt32 31).toBitVec % 32).toNat).getLsbD i = _
  rw [s_u n hn, BitVec.getLsbD_ushiftRight]
theorem b_sshr (n : Nat) (hn : n < 32) (x : Int32) {i : Nat} (hi : i < 32) : bt (x >>> (nI n &&& 31)) i = if n + i < 32 then bt x (n + i) else bt x 31 := by
  unfold bt
  rw [Int32.toBitVec_shiftRight]
  show (x.toBitVec.sshiftRight ((nI n &&& 31).toBitVec.smod 32).toNat).getLsbD i = _
  rw [s_l n hn, BitVec.getLsbD_sshiftRight, BitVec.msb_eq_getLsbD_last]
  simp [hi]

/-! own rows: numbers, reads and writes of the models, sets of up to twelve as Int32 -/
theorem nn0 : (0 : Int32) = nI 0 := rfl
theorem nn1 : (1 : Int32) = nI 1 := rfl
theorem nn2 : (2 : Int32) = nI 2 := rfl
theorem nn3 : (3 : Int32) = nI 3 := rfl
theorem nn4 : (4 : Int32) = nI 4 := rfl
theorem nn5 : (5 : Int32) = nI 5 := rfl
theorem nn6 : (6 : Int32) = nI 6 := rfl
theorem nn9 : (9 : Int32) = nI 9 := rfl
theorem nn10 : (10 : Int32) = nI 10 := rfl
theorem nn11 : (11 : Int32) = nI 11 := rfl
theorem nn12 : (12 : Int32) = nI 12 := rfl
theorem nn13 : (13 : Int32) = nI 13 := rfl
theorem nn30 : (30 : Int32) = nI 30 := rfl
theorem nn31 : (31 : Int32) = nI 31 := rfl
theorem nn72 : (72 : Int32) = nI 72 := rfl
theorem nn99 : (99 : Int32) = nI 99 := rfl
theorem nn100 : (100 : Int32) = nI 100 := rfl
theorem nn500 : (500 : Int32) = nI 500 := rfl
theorem nn864 : (864 : Int32) = nI 864 := rfl
theorem nn4096 : (4096 : Int32) = nI 4096 := rfl
theorem nn5000 : (5000 : Int32) = nI 5000 := rfl
theorem nIe {a b : Nat} (h : a = b) : nI a = nI b := by rw [h]
theorem rdN {f : Nat → Int32} {n k : Nat} (h : k < n) (hn : n < 2 ^ 31) : rd f n (nI k) = some (f k) := by
  unfold rd
  rw [if_pos (inB_of (vp_in_nI h hn)), nI_clamp (by omega)]
theorem wrtN {f : Nat → Int32} {n k : Nat} {x : Int32} (h : k < n) (hn : n < 2 ^ 31) : wrt f n (nI k) x = some (upd f k x) := by
  unfold wrt
  rw [if_pos (inB_of (vp_in_nI h hn)), nI_clamp (by omega)]
theorem upd_s {f : Nat → Int32} {k : Nat} {x : Int32} : upd f k x k = x := if_pos rfl
theorem upd_n {f : Nat → Int32} {k j : Nat} {x : Int32} (h : j ≠ k) : upd f k x j = f j := if_neg h
theorem upd_i {f : Nat → Int32} {k j : Nat} {x : Int32} : upd f k x j = if j = k then x else f j := rfl
def bI (b : Bool) : Int32 := if b = true then 1 else 0
theorem bI_t : bI true = 1 := rfl
theorem bI_f : bI false = 0 := rfl
theorem bI_0 {b : Bool} : bI b = 0 ↔ b = false := by cases b <;> decide
theorem bI_01 (b : Bool) : bI b = 0 ∨ bI b = 1 := by cases b <;> decide
theorem bz_bI (b : Bool) : bz (bI b) = some (bI b) := by cases b <;> rfl
theorem bz_0 : bz 0 = some 0 := rfl
theorem bz_1 : bz 1 = some 1 := rfl
theorem nar_bI (b : Bool) : vp_nar .boolean (bI b) = bI b := by cases b <;> rfl
theorem bI_inj {a b : Bool} (h : bI a = bI b) : a = b := by cases a <;> cases b <;> first | rfl | exact absurd h (by decide)
theorem bt_1 {i : Nat} (hi : i < 32) : bt 1 i = decide (i = 0) := (by decide +kernel : ∀ i, i < 32 → bt 1 i = decide (i = 0)) i hi
theorem bt_one {n i : Nat} (hn : n < 32) (hi : i < 32) : bt ((1 : Int32) <<< (nI n &&& 31)) i = decide (i = n) := by
  rw [b_shl n hn _ hi]
  rcases Nat.lt_or_ge i n with h | h
  · rw [decide_eq_false (by omega), decide_eq_false (by omega)]; rfl
  · rw [decide_eq_true h, bt_1 (by omega), Bool.true_and]
    by_cases e : i = n
    · rw [decide_eq_true (by omega), decide_eq_true e]
    · rw [decide_eq_false (by omega), decide_eq_false e]
theorem bt_nI {V i : Nat} (hi : i < 32) : bt (nI V) i = V.testBit i := by
  show (BitVec.ofNat 32 V).getLsbD i = _
  rw [BitVec.getLsbD_ofNat]
  simp [hi]
theorem and1 {x : Int32} : (x &&& 1) = 0 ↔ bt x 0 = false := by
  constructor
  · intro h
    have h1 : bt (x &&& 1) 0 = bt 0 0 := by rw [h]
    rw [b_and, b_0, bt_1 (by omega)] at h1
    simpa using h1
  · intro h
    refine b_ext fun i hi => ?_
    rw [b_and, b_0, bt_1 hi]
    by_cases e : i = 0
    · subst e; rw [h]; rfl
    · rw [decide_eq_false e, Bool.and_false]
theorem hasM {x : Int32} {n : Nat} (hn : n < 32) : mK0_hasMember x (nI n) = some (bI (bt x n)) := by
  have h0 : bt (x >>> (nI n &&& 31)) 0 = bt x n := by rw [b_sshr n hn x (by omega), if_pos (by omega)]; rfl
  unfold mK0_hasMember
  cases hb : bt x n with
  | false => rw [if_pos (and1.mpr (by rw [h0, hb]))]; rfl
  | true => rw [if_neg (fun h => by rw [and1, h0, hb] at h; cases h)]; rfl
/-- a set of numbers below twelve -/
def sm (x : Int32) : Prop := ∀ i, 12 ≤ i → i < 32 → bt x i = false
theorem sm_ext {x y : Int32} (hx : sm x) (hy : sm y) (h : ∀ i, i < 12 → bt x i = bt y i) : x = y := b_ext fun i hi => by
  rcases Nat.lt_or_ge i 12 with a | a
  · exact h i a
  · rw [hx i a hi, hy i a hi]
theorem sm_0 : sm 0 := fun i _ _ => b_0 i
theorem sm_or {x y : Int32} (hx : sm x) (hy : sm y) : sm (x ||| y) := fun i a b => by rw [b_or, hx i a b, hy i a b]; rfl
theorem sm_and {x y : Int32} (hx : sm x) : sm (x &&& y) := fun i a b => by rw [b_and, hx i a b]; rfl
theorem sm_one {n : Nat} (hn : n < 12) : sm ((1 : Int32) <<< (nI n &&& 31)) := fun i a b => by rw [bt_one (by omega) b, decide_eq_false (by omega)]
theorem sm_not (y : Int32) (i : Nat) (hi : i < 32) : bt (y ^^^ (-1)) i = !bt y i := by rw [b_xor, b_m1 i hi, Bool.xor_true]
theorem sm_val {x : Int32} (hx : sm x) : ∃ V, V < 4096 ∧ x = nI V := by
  refine ⟨x.toBitVec.toNat % 4096, Nat.mod_lt _ (by decide), b_ext fun i hi => ?_⟩
  rw [bt_nI hi, show (4096 : Nat) = 2 ^ 12 from rfl, Nat.testBit_mod_two_pow]
  rcases Nat.lt_or_ge i 12 with a | a
  · rw [decide_eq_true a, Bool.true_and]; rfl
  · rw [decide_eq_false (by omega), Bool.false_and]; exact hx i a hi
theorem sm_nI {V : Nat} (h : V < 4096) : sm (nI V) := fun i a b => by
  rw [bt_nI b]
  exact Nat.testBit_lt_two_pow (Nat.lt_of_lt_of_le h (by rw [show (4096 : Nat) = 2 ^ 12 from rfl]; exact Nat.pow_le_pow_right (by decide) a))
theorem eq0_sm {x : Int32} (hx : sm x) : x = 0 ↔ ∀ i, i < 12 → bt x i = false := by
  constructor
  · intro h i _; rw [h, b_0]
  · intro h; exact sm_ext hx sm_0 (fun i hi => by rw [h i hi, b_0])
/-- how many of a set are there -/
def cntV (V : Nat) : Nat := (List.range 12).foldl (fun n i => n + if V.testBit i = true then 1 else 0) 0
def cntB (f : Nat → Bool) : Nat → Nat
  | 0 => 0
  | n + 1 => cntB f n + if f n = true then 1 else 0
theorem bitC_all : ∀ a, a < 64 → ∀ b, b < 64 → mJ2_bitCount (nI (64 * a + b)) = some (nI (cntV (64 * a + b))) := by decide +kernel
theorem cntV_B (V : Nat) : cntV V = cntB (fun i => V.testBit i) 12 := by
  simp [cntV, cntB, List.range, List.range.loop]
theorem cntB_congr {f g : Nat → Bool} : ∀ {n : Nat}, (∀ i, i < n → f i = g i) → cntB f n = cntB g n
  | 0, _ => rfl
  | n + 1, h => by rw [cntB, cntB, cntB_congr (fun i hi => h i (by omega)), h n (by omega)]
theorem cntB_le (f : Nat → Bool) : ∀ n, cntB f n ≤ n
  | 0 => Nat.le_refl 0
  | n + 1 => by have := cntB_le f n; rw [cntB]; split <;> omega
theorem bitC {x : Int32} (hx : sm x) : mJ2_bitCount x = some (nI (cntB (bt x) 12)) := by
  obtain ⟨V, hV, rfl⟩ := sm_val hx
  have h := bitC_all (V / 64) (by omega) (V % 64) (by omega)
  rw [show 64 * (V / 64) + V % 64 = V by omega, cntV_B] at h
  rw [h, cntB_congr (fun i hi => (bt_nI (V := V) (i := i) (by omega)).symm)]
/-- the least of a set -/
theorem least_all : ∀ a, a < 64 → ∀ b, b < 64 → ¬ (64 * a + b = 0) → ∃ k, k < 12 ∧ mK1_least (nI (64 * a + b)) = some (nI k) ∧ (64 * a + b).testBit k = true ∧ ∀ j, j < k → (64 * a + b).testBit j = false := by decide +kernel
theorem least {x : Int32} (hx : sm x) (h0 : ¬ x = 0) : ∃ k, k < 12 ∧ mK1_least x = some (nI k) ∧ bt x k = true ∧ ∀ j, j < k → bt x j = false := by
  obtain ⟨V, hV, rfl⟩ := sm_val hx
  have h := least_all (V / 64) (by omega) (V % 64) (by omega)
  rw [show 64 * (V / 64) + V % 64 = V by omega] at h
  obtain ⟨k, h1, h2, h3, h4⟩ := h (fun e => h0 (by rw [e]; rfl))
  exact ⟨k, h1, h2, by rw [bt_nI (by omega)]; exact h3, fun j hj => by rw [bt_nI (by omega)]; exact h4 j hj⟩
