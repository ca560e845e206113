/-! own rows: a triple put or taken, a set of changes tried -/
def thU (th : Nat → Bool) (k : Nat) (b : Bool) : Nat → Bool := fun j => if j = k then b else th j
theorem thU_s {th : Nat → Bool} {k : Nat} {b : Bool} : thU th k b k = b := if_pos rfl
theorem thU_n {th : Nat → Bool} {k j : Nat} {b : Bool} (h : j ≠ k) : thU th k b j = th j := if_neg h
/-- truths that agree on types and belows have the same classes -/
def sameC (th th' : Nat → Bool) : Prop := ∀ a t, a < 12 → t < 24 → th (72 * a + t) = th' (72 * a + t)
theorem sameC_isO {th th' : Nat → Bool} (h : sameC th th') {n c : Nat} (hn : n < 12) : isO th n c = isO th' n c := by
  have key : ∀ {t1 t2 : Nat → Bool}, sameC t1 t2 → Rch t1 n c → Rch t2 n c := fun hs hr S h1 h2 =>
    hr S (fun t ht hq => h1 t ht (by rw [← hs n t hn (by omega)]; exact hq)) (fun a b ha hb hS hq => h2 a b ha hb hS (by rw [show 72 * a + 12 + b = 72 * a + (12 + b) by omega, ← hs a (12 + b) ha (by omega), show 72 * a + (12 + b) = 72 * a + 12 + b by omega]; exact hq))
  have h' : sameC th' th := fun a t ha ht => (h a t ha ht).symm
  cases h1 : isO th n c with
  | true => exact (isO_t.mpr (key h (isO_t.mp h1))).symm
  | false =>
    cases h2 : isO th' n c with
    | false => rfl
    | true => rw [isO_t.mpr (key h' (isO_t.mp h2))] at h1; cases h1
theorem MEr_same {me : Nat → Int32} {th th' : Nat → Bool} (h : MEr me th) (hs : sameC th th') : MEr me th' := fun c hc => ⟨(h c hc).1, fun n hn => by rw [(h c hc).2 n hn, sameC_isO hs hn]⟩
theorem OBr_upd {ob : Nat → Int32} {th : Nat → Bool} (h : OBr ob th) {k : Nat} (hk : k < 864) {b : Bool} {x : Int32} (hx : sm x) (hb : ∀ o, o < 12 → bt x o = if o = k % 12 then b else bt (ob (k / 12)) o) : OBr (upd ob (k / 12) x) (thU th k b) := by
  intro c hc
  by_cases e : c = k / 12
  · subst e
    rw [upd_s]
    refine ⟨hx, fun o ho => ?_⟩
    rw [hb o ho]
    by_cases eo : o = k % 12
    · rw [if_pos eo, show 12 * (k / 12) + o = k by omega, thU_s]
    · rw [if_neg eo, thU_n (by omega), (h _ hc).2 o ho]
  · rw [upd_n e]
    refine ⟨(h c hc).1, fun o ho => ?_⟩
    rw [thU_n (by omega), (h c hc).2 o ho]
set_option maxHeartbeats 1000000 in
theorem alterT {ob : Nat → Int32} {th : Nat → Bool} (h : OBr ob th) (so : Int32) (u : Bool) {k : Nat} (hk : k < 864) : ∃ ob', mK1_alter so ob (bI u) (nI k) = some (if k % 72 < 24 then 0 else so, ob') ∧ OBr ob' (thU th k u) := by
  have hq : nI k / 12 = nI (k / 12) := by rw [nn12]; exact pk_div (by omega) (by omega) (by omega)
  have hm : nI k - nI (k / 12) * 12 = nI (k % 12) := by rw [← hq, nn12]; exact pk_rem (by omega) (by omega) (by omega)
  have h6 : nI (k / 12) - nI (k / 12) / 6 * 6 = nI (k / 12 % 6) := by rw [nn6]; exact pk_rem (by omega) (by omega) (by omega)
  have hJ : ∀ x, mK1_alter_J45 so ob (nI (k / 12)) x = some (if k % 72 < 24 then 0 else so, upd ob (k / 12) x) := by
    intro x
    unfold mK1_alter_J45
    rw [wrtN (by omega) (by decide), bd1v, h6, bd1v]
    by_cases e0 : k / 12 % 6 = 0
    · rw [if_pos (by rw [e0]; rfl), if_pos (by omega)]
    · rw [if_neg (show ¬ nI (k / 12 % 6) = 0 from fun q => e0 ((nI_eq (by omega) (by omega)).mp (show nI (k / 12 % 6) = nI 0 from q)))]
      by_cases e1 : k / 12 % 6 = 1
      · rw [if_pos (by rw [e1]; rfl), if_pos (by omega)]
      · rw [if_neg (show ¬ nI (k / 12 % 6) = 1 from fun q => e1 ((nI_eq (by omega) (by omega)).mp (show nI (k / 12 % 6) = nI 1 from q))), if_neg (by omega)]
  have hs := (h (k / 12) (by omega)).1
  unfold mK1_alter
  rw [hq, bd1v, hm, bd1v]
  cases u with
  | false =>
    refine ⟨_, by rw [if_pos bI_f, rdN (by omega) (by decide), bd1v, hJ], OBr_upd h hk (sm_and hs) fun o ho => ?_⟩
    rw [b_and, sm_not _ o (by omega), bt_one (by omega) (by omega)]
    by_cases e : o = k % 12
    · rw [if_pos e, decide_eq_true e]; simp
    · rw [if_neg e, decide_eq_false e]; simp
  | true =>
    refine ⟨_, by rw [if_neg (by decide), rdN (by omega) (by decide), bd1v, hJ], OBr_upd h hk (sm_or hs (sm_one (by omega))) fun o ho => ?_⟩
    rw [b_or, bt_one (by omega) (by omega)]
    by_cases e : o = k % 12
    · rw [if_pos e, decide_eq_true e]; simp
    · rw [if_neg e, decide_eq_false e]; simp
theorem sameC_U {th : Nat → Bool} {k : Nat} {b : Bool} (h : ¬ k % 72 < 24) : sameC th (thU th k b) := fun a t ha ht => (thU_n (by omega)).symm
def CHr (pu co we : Nat → Int32) (U : Nat → Bool) (C V : Nat → Nat) (n : Nat) : Prop := ∀ c, c < n → pu c = bI (U c) ∧ co c = nI (C c) ∧ we c = nI (V c) ∧ C c < 864 ∧ 1 ≤ V c ∧ V c ≤ 9
/-- the truths when the first n changes of set S are done -/
def thS (th U : Nat → Bool) (C : Nat → Nat) (S : Int32) : Nat → Nat → Bool
  | 0 => th
  | n + 1 => if bt S n = true then thU (thS th U C S n) (C n) (U n) else thS th U C S n
set_option maxHeartbeats 1000000 in
theorem doAllT {ob pu co we : Nat → Int32} {th U : Nat → Bool} {C V : Nat → Nat} {n : Nat} (h : OBr ob th) (hc : CHr pu co we U C V n) (hn : n ≤ 12) (S : Int32) : ∃ so' ob', mK3_doAll (nI n) pu co 1 ob S = some (so', ob') ∧ OBr ob' (thS th U C S n) ∧ (so' = 0 ∨ (so' = 1 ∧ sameC th (thS th U C S n))) := by
  unfold mK3_doAll
  refine lpU (S := Int32 × (Nat → Int32)) (fun f i st => mK3_doAll_L2 (nI n) pu co S mK3_doAll_A2 f (nI i) st.1 st.2) (fun o => ∃ so' ob', o = some (so', ob') ∧ OBr ob' (thS th U C S n) ∧ (so' = 0 ∨ (so' = 1 ∧ sameC th (thS th U C S n)))) n
    (fun i st => OBr st.2 (thS th U C S i) ∧ (st.1 = 0 ∨ (st.1 = 1 ∧ sameC th (thS th U C S i)))) ?_ ?_ 5000 0 (1, ob) (by omega) (by omega) ⟨h, Or.inr ⟨rfl, fun _ _ _ _ => rfl⟩⟩
  · rintro f ⟨so, o1⟩ ⟨h1, h2⟩
    refine ⟨so, o1, ?_, h1, h2⟩
    show mK3_doAll_B2 (nI n) pu co S mK3_doAll_A2 _ (nI n) so o1 = _
    unfold mK3_doAll_B2
    rw [if_pos (by exact nI_le (Nat.le_refl n) (by omega))]
    rfl
  · rintro f i ⟨so, o1⟩ hi ⟨h1, h2⟩
    right
    dsimp only at h1 h2 ⊢
    obtain ⟨e1, e2, -, hC, -, -⟩ := hc i hi
    have hgo : ¬ nI n ≤ nI i := fun q => by rw [nI_leI (by omega) (by omega)] at q; omega
    cases hb : bt S i with
    | false =>
      refine ⟨(so, o1), ?_, ?_⟩
      · rw [thS, hb]; exact ⟨h1, h2⟩
      · show mK3_doAll_B2 (nI n) pu co S mK3_doAll_A2 (mK3_doAll_L2 (nI n) pu co S mK3_doAll_A2 f) (nI i) so o1 = _
        unfold mK3_doAll_B2
        rw [if_neg hgo, hasM (by omega), bd1v, hb, if_pos bI_f, nIs, bd1v]
    | true =>
      obtain ⟨o2, ea, ho2⟩ := alterT h1 so (U i) hC
      refine ⟨(if C i % 72 < 24 then 0 else so, o2), ?_, ?_⟩
      · rw [thS, hb, if_pos rfl]
        refine ⟨ho2, ?_⟩
        dsimp only
        by_cases e : C i % 72 < 24
        · rw [if_pos e]; exact Or.inl rfl
        · rw [if_neg e]
          rcases h2 with h2 | ⟨h2, h3⟩
          · exact Or.inl h2
          · exact Or.inr ⟨h2, fun a t ha ht => by rw [h3 a t ha ht]; exact sameC_U e a t ha ht⟩
      · show mK3_doAll_B2 (nI n) pu co S mK3_doAll_A2 (mK3_doAll_L2 (nI n) pu co S mK3_doAll_A2 f) (nI i) so o1 = _
        unfold mK3_doAll_B2
        rw [if_neg hgo, hasM (by omega), bd1v, hb, if_neg (by decide), rdN (by omega) (by decide), bd1v, e1, rdN (by omega) (by decide), bd1v, e2, ea, bd2v, nIs, bd1v]

/-- a set is tried: the class's trial -/
theorem tryOutT {ob me tiob time pu co we : Nat → Int32} {tiso : Int32} {th U : Nat → Bool} {C V : Nat → Nat} {n : Nat} (h : OBr ob th) (hm : MEr me th) (hc : CHr pu co we U C V n) (hn : n ≤ 12) (S : Int32) : ∃ ob' me', mK0_tryOut 1 ob me tiso tiob time (nI n) pu co S = some (1, ob', me') ∧ OBr ob' (thS th U C S n) ∧ MEr me' (thS th U C S n) := by
  have hob : OBr (va_cpy ob tiob 0 0 72) th := fun k hk => by
    have e : va_cpy ob tiob 0 0 72 k = ob k := by
      rw [pk_cpy_in (by omega) (by omega)]
      congr 1
      omega
    rw [e]; exact h k hk
  have hme : MEr (va_cpy me time 0 0 12) th := fun k hk => by
    have e : va_cpy me time 0 0 12 k = me k := by
      rw [pk_cpy_in (by omega) (by omega)]
      congr 1
      omega
    rw [e]; exact hm k hk
  obtain ⟨so', ob', e1, h1, h2⟩ := doAllT hob hc hn S
  unfold mK0_tryOut mK1_copyFrom
  rw [bd1v, bd1v, bz_1, bd1v, bd3v, e1, bd2v]
  rcases h2 with rfl | ⟨rfl, hs⟩
  · obtain ⟨me', e2, h3⟩ := sortAll h1 (va_cpy me time 0 0 12)
    exact ⟨ob', me', by rw [e2, bd2v], h1, h3⟩
  · refine ⟨ob', _, ?_, h1, MEr_same hme hs⟩
    unfold mK1_sortIntoClasses
    rw [if_neg (by decide), bd2v]
/-- the reference begins: what is there, and the set's changes done -/
theorem bit1 {x : Int32} {i : Nat} (hi : i < 32) : ((x >>> (nI i &&& 31)) &&& 1) = 1 ↔ bt x i = true := by
  have h0 : bt (x >>> (nI i &&& 31)) 0 = bt x i := by rw [b_sshr i hi x (by omega), if_pos (by omega)]; rfl
  constructor
  · intro q
    have h1 : bt ((x >>> (nI i &&& 31)) &&& 1) 0 = bt 1 0 := by rw [q]
    rw [b_and, h0, bt_1 (by omega)] at h1
    simpa using h1
  · intro q
    refine b_ext fun j hj => ?_
    rw [b_and, bt_1 hj]
    by_cases e : j = 0
    · subst e; rw [h0, q]; rfl
    · rw [decide_eq_false e, Bool.and_false]
set_option maxHeartbeats 1000000 in
theorem beginT {there now pu co we : Nat → Int32} {th U : Nat → Bool} {C V : Nat → Nat} {n : Nat} (h : BAr there th 864) (hc : CHr pu co we U C V n) (hn : n ≤ 12) (S : Int32) : ∃ now', mK5_begin (nI n) there now pu co S = some now' ∧ BAr now' (thS th U C S n) 864 := by
  unfold mK5_begin
  have h1 : ∃ nw, mK5_begin_L2 there (mK5_begin_A2 (nI n) pu co S) 5000 0 now = mK5_begin_A2 (nI n) pu co S nw ∧ BAr nw th 864 := by
    refine lpU (S := Nat → Int32) (fun f i st => mK5_begin_L2 there (mK5_begin_A2 (nI n) pu co S) f (nI i) st) (fun o => ∃ nw, o = mK5_begin_A2 (nI n) pu co S nw ∧ BAr nw th 864) 864 (fun i st => ∀ k, k < i → k < 864 → st k = bI (th k)) ?_ ?_ 5000 0 now (by omega) (by omega) (fun k hk => absurd hk (by omega))
    · intro f st hJ
      refine ⟨st, ?_, fun k hk => hJ k hk hk⟩
      show mK5_begin_B2 there _ _ (nI 864) st = _
      unfold mK5_begin_B2
      rw [if_pos (show (864 : Int32) ≤ nI 864 by decide)]
    · intro f i st hi hJ
      refine Or.inr ⟨upd st i (bI (th i)), fun k h1 h2 => ?_, ?_⟩
      · by_cases e : k = i
        · rw [e, upd_s]
        · rw [upd_n e]; exact hJ k (by omega) h2
      · show mK5_begin_B2 there _ (mK5_begin_L2 there (mK5_begin_A2 (nI n) pu co S) f) (nI i) st = _
        unfold mK5_begin_B2
        rw [if_neg (fun q => by rw [nn864, nI_leI (by omega) (by omega)] at q; omega), rdN hi (by decide), bd1v, h i hi, nar_bI, wrtN hi (by decide), bd1v, nIs, bd1v]
  obtain ⟨nw, e1, hb⟩ := h1
  rw [e1]
  unfold mK5_begin_A2
  refine lpU (S := Nat → Int32) (fun f i st => mK5_begin_L29 (nI n) pu co S mK5_begin_A29 f (nI i) st) (fun o => ∃ now', o = some now' ∧ BAr now' (thS th U C S n) 864) n (fun i st => BAr st (thS th U C S i) 864) ?_ ?_ 5000 0 nw (by omega) (by omega) hb
  · intro f st hJ
    refine ⟨st, ?_, hJ⟩
    show mK5_begin_B29 (nI n) pu co S mK5_begin_A29 _ (nI n) st = _
    unfold mK5_begin_B29
    rw [if_pos (nI_le (Nat.le_refl n) (by omega))]
    rfl
  · intro f i st hi hJ
    right
    obtain ⟨q1, q2, -, hC, -, -⟩ := hc i hi
    have hgo : ¬ nI n ≤ nI i := fun q => by rw [nI_leI (by omega) (by omega)] at q; omega
    cases hb2 : bt S i with
    | false =>
      refine ⟨st, by rw [thS, hb2]; exact hJ, ?_⟩
      show mK5_begin_B29 (nI n) pu co S mK5_begin_A29 (mK5_begin_L29 (nI n) pu co S mK5_begin_A29 f) (nI i) st = _
      unfold mK5_begin_B29
      rw [if_neg hgo, if_neg (fun q => by rw [bit1 (by omega), hb2] at q; cases q), nIs, bd1v]
    | true =>
      refine ⟨upd st (C i) (bI (U i)), ?_, ?_⟩
      · rw [thS, hb2, if_pos rfl]
        exact BAr_upd hJ
      · show mK5_begin_B29 (nI n) pu co S mK5_begin_A29 (mK5_begin_L29 (nI n) pu co S mK5_begin_A29 f) (nI i) st = _
        unfold mK5_begin_B29
        rw [if_neg hgo, if_pos ((bit1 (by omega)).mpr hb2), rdN (by omega) (by decide), bd1v, q2, rdN (by omega) (by decide), bd1v, q1, nar_bI, wrtN hC (by decide), bd1v, nIs, bd1v]
theorem thS_0 {th U : Nat → Bool} {C : Nat → Nat} : ∀ n, n ≤ 32 → thS th U C 0 n = th
  | 0, _ => rfl
  | n + 1, h => by rw [thS, b_0, thS_0 n (by omega)]; rfl
theorem thS_congr {th U U' : Nat → Bool} {C C' : Nat → Nat} {S : Int32} : ∀ {n : Nat}, (∀ c, c < n → U c = U' c ∧ C c = C' c) → thS th U C S n = thS th U' C' S n
  | 0, _ => rfl
  | n + 1, h => by rw [thS, thS, thS_congr (fun c hc => h c (by omega)), (h n (by omega)).1, (h n (by omega)).2]
