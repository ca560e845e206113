/-! own rows: loops that count up; triples, classes of a node: the class's walk and the reference's rounds come to the same set -/
theorem bd1v {A G : Type} {a : A} {f : A → Option G} : bd1 (some a) f = f a := rfl
theorem bd0v {G : Type} {f : Option G} : bd0 (some ()) f = f := rfl
theorem bd2v {A B G : Type} {a : A} {b : B} {f : A → B → Option G} : bd2 (some (a, b)) f = f a b := rfl
theorem bd3v {A B C G : Type} {a : A} {b : B} {c : C} {f : A → B → C → Option G} : bd3 (some (a, b, c)) f = f a b c := rfl
theorem bd4v {A B C D G : Type} {a : A} {b : B} {c : C} {d : D} {f : A → B → C → D → Option G} : bd4 (some (a, b, c, d)) f = f a b c d := rfl
theorem bd5v {A B C D E G : Type} {a : A} {b : B} {c : C} {d : D} {e : E} {f : A → B → C → D → E → Option G} : bd5 (some (a, b, c, d, e)) f = f a b c d e := rfl
/-- a loop that counts up to N, left early or at its end: what holds of its value -/
theorem lpU {S R : Type} (F : Nat → Nat → S → R) (P : R → Prop) (N : Nat) (J : Nat → S → Prop) (hx : ∀ n st, J N st → P (F (n + 1) N st)) (hs : ∀ n i st, i < N → J i st → P (F (n + 1) i st) ∨ ∃ st', J (i + 1) st' ∧ F (n + 1) i st = F n (i + 1) st') :
    ∀ (n i : Nat) (st : S), i ≤ N → N < n + i → J i st → P (F n i st) := by
  intro n
  induction n with
  | zero => intro i st h1 h2; omega
  | succ n ih =>
    intro i st h1 h2 hj
    rcases Nat.lt_or_ge i N with h | h
    · rcases hs n i st h hj with hp | ⟨st', hj', e⟩
      · exact hp
      · rw [e]
        exact ih (i + 1) st' (by omega) (by omega) hj'
    · have e : i = N := by omega
      subst e
      exact hx n st hj
theorem nIs (i : Nat) : nI i + 1 = nI (i + 1) := nI_1 i
theorem le12 {i : Nat} (h : i < 2 ^ 31) : ((12 : Int32) ≤ nI i) ↔ 12 ≤ i := by rw [nn12]; exact nI_leI (by omega) h
/-- the class's triples as a table of truths by codes -/
def OBr (ob : Nat → Int32) (th : Nat → Bool) : Prop := ∀ k, k < 72 → sm (ob k) ∧ ∀ o, o < 12 → bt (ob k) o = th (12 * k + o)
def BAr (a : Nat → Int32) (th : Nat → Bool) (n : Nat) : Prop := ∀ k, k < n → a k = bI (th k)
/-- c is a class that node n is of -/
def Rch (th : Nat → Bool) (n c : Nat) : Prop := ∀ S : Nat → Prop, (∀ t, t < 12 → th (72 * n + t) = true → S t) → (∀ a b, a < 12 → b < 12 → S a → th (72 * a + 12 + b) = true → S b) → S c
noncomputable def isO (th : Nat → Bool) (n c : Nat) : Bool := @decide (Rch th n c) (Classical.propDecidable _)
theorem isO_t {th : Nat → Bool} {n c : Nat} : isO th n c = true ↔ Rch th n c := by
  unfold isO
  exact @decide_eq_true_iff _ (Classical.propDecidable _)
theorem Rch_ty {th : Nat → Bool} {n t : Nat} (h : t < 12) (ht : th (72 * n + t) = true) : Rch th n t := fun _ h1 _ => h1 t h ht
theorem Rch_up {th : Nat → Bool} {n a b : Nat} (ha : a < 12) (hb : b < 12) (h : Rch th n a) (ht : th (72 * a + 12 + b) = true) : Rch th n b := fun S h1 h2 => h2 a b ha hb (h S h1 h2) ht
theorem Rch_in {th : Nat → Bool} {n c : Nat} (f : Nat → Bool) (h : Rch th n c) (h1 : ∀ t, t < 12 → th (72 * n + t) = true → f t = true) (h2 : ∀ a b, a < 12 → b < 12 → f a = true → th (72 * a + 12 + b) = true → f b = true) : f c = true := h (fun c => f c = true) h1 h2
/-- a set that holds the types, is closed, and holds no more than it must -/
theorem isO_of {th : Nat → Bool} {n : Nat} (f : Nat → Bool) (h0 : ∀ c, c < 12 → f c = true → Rch th n c) (h1 : ∀ t, t < 12 → th (72 * n + t) = true → f t = true) (h2 : ∀ a b, a < 12 → b < 12 → f a = true → th (72 * a + 12 + b) = true → f b = true) : ∀ c, c < 12 → f c = isO th n c := by
  intro c hc
  cases hf : f c with
  | true => exact (isO_t.mpr (h0 c hc hf)).symm
  | false =>
    cases hi : isO th n c with
    | false => rfl
    | true => rw [Rch_in f (isO_t.mp hi) h1 h2] at hf; cases hf
theorem cntB_full {f : Nat → Bool} : ∀ {n : Nat}, cntB f n = n → ∀ i, i < n → f i = true
  | 0, _, i, h => absurd h (by omega)
  | n + 1, h, i, hi => by
    have h1 := cntB_le f n
    rw [cntB] at h
    by_cases hf : f n = true
    · rw [if_pos hf] at h
      rcases Nat.lt_or_ge i n with a | a
      · exact cntB_full (by omega) i a
      · rw [show i = n by omega]; exact hf
    · rw [if_neg hf] at h; omega
theorem cntB_add {f g : Nat → Bool} {k : Nat} : ∀ {n : Nat}, k < n → (∀ i, i < n → g i = (f i || decide (i = k))) → f k = false → cntB g n = cntB f n + 1
  | 0, h, _, _ => absurd h (by omega)
  | n + 1, h, hg, hf => by
    rw [cntB, cntB, hg n (by omega)]
    rcases Nat.lt_or_ge k n with a | a
    · rw [cntB_add a (fun i hi => hg i (by omega)) hf, decide_eq_false (show ¬ n = k by omega), Bool.or_false]
      omega
    · have e : k = n := by omega
      subst e
      rw [cntB_congr (f := g) (g := f) (fun i hi => by rw [hg i (by omega), decide_eq_false (show ¬ i = k by omega), Bool.or_false]), hf]
      simp
theorem cntB_0 : ∀ n, cntB (fun _ => false) n = 0
  | 0 => rfl
  | n + 1 => by rw [cntB, cntB_0 n]; rfl
theorem objs {ob : Nat → Int32} {s p : Nat} (hs : s < 12) (hp : p < 6) : mK1_objectsOf ob (nI s) (nI p) = some (ob (6 * s + p)) := by
  unfold mK1_objectsOf
  rw [nn6, pk_mul, nI_add, rdN (by omega) (by decide), bd1v]
theorem hasT {ob : Nat → Int32} {s p o : Nat} (hs : s < 12) (hp : p < 6) (ho : o < 12) : mK1_has ob (nI s) (nI p) (nI o) = some (bI (bt (ob (6 * s + p)) o)) := by
  unfold mK1_has
  rw [objs hs hp, bd1v, hasM (by omega), bd1v, bz_bI, bd1v]
theorem isMem {me : Nat → Int32} {n c : Nat} (hn : n < 12) (hc : c < 12) : mK1_isMember me (nI n) (nI c) = some (bI (bt (me c) n)) := by
  unfold mK1_isMember
  rw [rdN hc (by decide), bd1v, hasM (by omega), bd1v, bz_bI, bd1v]
theorem memsOf {me : Nat → Int32} {c : Nat} (hc : c < 12) : mK1_membersOf me (nI c) = some (me c) := by
  unfold mK1_membersOf
  rw [rdN hc (by decide), bd1v]
theorem OBr_at {ob : Nat → Int32} {th : Nat → Bool} (h : OBr ob th) {s p o : Nat} (hs : s < 12) (hp : p < 6) (ho : o < 12) : bt (ob (6 * s + p)) o = th (72 * s + 12 * p + o) := by
  rw [(h (6 * s + p) (by omega)).2 o ho]
  congr 1
  omega
set_option maxHeartbeats 1000000 in
theorem classesOf {ob : Nat → Int32} {th : Nat → Bool} (h : OBr ob th) {n : Nat} (hn : n < 12) : ∃ x, mK1_classesOf ob (nI n) = some x ∧ sm x ∧ ∀ c, c < 12 → bt x c = isO th n c := by
  unfold mK1_classesOf
  rw [nn0, objs hn (by omega), bd1v, ← nn0]
  refine lpU (S := Int32 × Int32) (fun f i st => mK1_classesOf_L12 ob mK1_classesOf_A12 f st.1 st.2 (nI i)) (fun o => ∃ x, o = some x ∧ sm x ∧ ∀ c, c < 12 → bt x c = isO th n c) 12
    (fun i st => sm st.1 ∧ sm st.2 ∧ (∀ c, c < 12 → bt st.2 c = true → bt st.1 c = true) ∧ (∀ c, c < 12 → bt st.1 c = true → Rch th n c) ∧ (∀ t, t < 12 → th (72 * n + t) = true → bt st.1 t = true) ∧ (∀ a b, a < 12 → b < 12 → bt st.2 a = true → th (72 * a + 12 + b) = true → bt st.1 b = true) ∧ cntB (bt st.2) 12 = i) ?_ ?_ 5000 0 (ob (6 * n + 0), 0) (by omega) (by omega) ?_
  · rintro f ⟨re, dn⟩ ⟨h1, h2, h3, h4, h5, h6, h7⟩
    dsimp only at h1 h2 h3 h4 h5 h6 h7 ⊢
    refine ⟨re, ?_, h1, isO_of (bt re) h4 h5 (fun a b ha hb hr ht => h6 a b ha hb (cntB_full h7 a ha) ht)⟩
    show mK1_classesOf_B12 ob mK1_classesOf_A12 _ re dn (nI 12) = some re
    unfold mK1_classesOf_B12
    rw [if_pos ((le12 (by omega)).mpr (by omega))]
    rfl
  · rintro f i ⟨re, dn⟩ hi ⟨h1, h2, h3, h4, h5, h6, h7⟩
    dsimp only at h1 h2 h3 h4 h5 h6 h7 ⊢
    by_cases e : dn = re
    · left
      refine ⟨re, ?_, h1, isO_of (bt re) h4 h5 (fun a b ha hb hr ht => h6 a b ha hb (by rw [e]; exact hr) ht)⟩
      show mK1_classesOf_B12 ob mK1_classesOf_A12 _ re dn (nI i) = some re
      unfold mK1_classesOf_B12
      rw [if_neg (fun q => by rw [le12 (by omega)] at q; omega), if_pos e]
      rfl
    · right
      have hd : ∀ c, c < 12 → bt (re &&& (dn ^^^ (-1))) c = (bt re c && !bt dn c) := fun c hc => by rw [b_and, sm_not dn c (by omega)]
      have hz : ¬ (re &&& (dn ^^^ (-1))) = 0 := fun q => e (sm_ext h2 h1 fun c hc => by
        have hq := (eq0_sm (sm_and h1)).mp q c hc
        rw [hd c hc] at hq
        cases hd2 : bt dn c with
        | true => exact (h3 c hc hd2).symm
        | false =>
          cases hr : bt re c with
          | false => rfl
          | true => rw [hr, hd2] at hq; simp at hq)
      obtain ⟨k, hk, hl, hb, -⟩ := least (sm_and (y := dn ^^^ (-1)) h1) hz
      rw [hd k hk] at hb
      have hrk : bt re k = true := by cases hr : bt re k <;> rw [hr] at hb <;> simp at hb ⊢
      have hdk : bt dn k = false := by cases hr : bt dn k <;> rw [hr] at hb <;> simp at hb ⊢
      have hbe : ∀ c, c < 12 → bt (dn ||| (1 : Int32) <<< (nI k &&& 31)) c = (bt dn c || decide (c = k)) := fun c hc => by rw [b_or, bt_one (by omega) (by omega)]
      have hob : ∀ b, b < 12 → bt (ob (6 * k + 1)) b = th (72 * k + 12 + b) := fun b hb2 => by rw [OBr_at h hk (by omega) hb2]
      refine ⟨(re ||| ob (6 * k + 1), dn ||| (1 : Int32) <<< (nI k &&& 31)), ⟨sm_or h1 (h (6 * k + 1) (by omega)).1, sm_or h2 (sm_one hk), ?_, ?_, ?_, ?_, ?_⟩, ?_⟩
      · intro c hc hq
        dsimp only at hq ⊢
        rw [hbe c hc] at hq
        rw [b_or]
        by_cases ec : c = k
        · rw [ec, hrk]; rfl
        · rw [decide_eq_false ec, Bool.or_false] at hq
          rw [h3 c hc hq]; rfl
      · intro c hc hq
        dsimp only at hq
        rw [b_or] at hq
        cases hr : bt re c with
        | true => exact h4 c hc hr
        | false =>
          rw [hr, Bool.false_or, hob c hc] at hq
          exact Rch_up hk hc (h4 k hk hrk) hq
      · intro t ht hq
        dsimp only
        rw [b_or, h5 t ht hq]; rfl
      · intro a b ha hb2 hq ht
        dsimp only at hq ⊢
        rw [hbe a ha] at hq
        rw [b_or]
        by_cases ec : a = k
        · subst ec
          rw [hob b hb2, ht, Bool.or_true]
        · rw [decide_eq_false ec, Bool.or_false] at hq
          rw [h6 a b ha hb2 hq ht]; rfl
      · dsimp only
        rw [cntB_add hk hbe hdk, h7]
      · show mK1_classesOf_B12 ob mK1_classesOf_A12 (mK1_classesOf_L12 ob mK1_classesOf_A12 f) re dn (nI i) = _
        unfold mK1_classesOf_B12
        rw [if_neg (fun q => by rw [le12 (by omega)] at q; omega), if_neg e, hl, bd1v, bd1v, show mK1_objectsOf ob (nI k) 1 = some (ob (6 * k + 1)) from objs (p := 1) hk (by omega), bd1v, bd1v, nIs, bd1v]
  · refine ⟨(h (6 * n + 0) (by omega)).1, sm_0, ?_, ?_, ?_, ?_, ?_⟩
    · intro c hc hq; dsimp only at hq; rw [b_0] at hq; cases hq
    · intro c hc hq
      dsimp only at hq
      rw [OBr_at h hn (by omega) hc] at hq
      exact Rch_ty hc hq
    · intro t ht hq
      dsimp only
      rw [OBr_at h hn (by omega) ht]
      exact hq
    · intro a b ha hb hq; dsimp only at hq; rw [b_0] at hq; cases hq
    · dsimp only
      rw [cntB_congr (f := bt 0) (g := fun _ => false) (fun i _ => b_0 i), cntB_0]

/-- the members of each class -/
def MEr (me : Nat → Int32) (th : Nat → Bool) : Prop := ∀ c, c < 12 → sm (me c) ∧ ∀ n, n < 12 → bt (me c) n = isO th n c
theorem fillZ (af : Nat → Int32) : ∃ r, mJ6_fill_aIIV af 0 = some r ∧ ∀ k, k < 12 → r k = 0 := by
  unfold mJ6_fill_aIIV
  refine lpU (S := Nat → Int32) (fun f i st => mJ6_fill_aIIV_L5 0 mJ6_fill_aIIV_A5 f (nI i) st) (fun o => ∃ r, o = some r ∧ ∀ k, k < 12 → r k = 0) 12 (fun i st => ∀ k, k < i → st k = 0) ?_ ?_ 5000 0 af (by omega) (by omega) (fun k hk => absurd hk (by omega))
  · intro f st h
    refine ⟨st, ?_, h⟩
    show mJ6_fill_aIIV_B5 0 mJ6_fill_aIIV_A5 _ (nI 12) st = some st
    unfold mJ6_fill_aIIV_B5
    rw [if_pos ((le12 (by omega)).mpr (by omega))]
    rfl
  · intro f i st hi h
    refine Or.inr ⟨upd st i 0, fun k hk => ?_, ?_⟩
    · by_cases e : k = i
      · rw [e, upd_s]
      · rw [upd_n e]; exact h k (by omega)
    · show mJ6_fill_aIIV_B5 0 mJ6_fill_aIIV_A5 (mJ6_fill_aIIV_L5 0 mJ6_fill_aIIV_A5 f) (nI i) st = _
      unfold mJ6_fill_aIIV_B5
      rw [if_neg (fun q => by rw [le12 (by omega)] at q; omega), wrtN hi (by decide), bd1v, nIs, bd1v]
set_option maxHeartbeats 1000000 in
/-- a node's bit comes to all its classes -/
theorem sortIn {x : Int32} {nd : Nat} (hx : sm x) (hnd : nd < 12) (K : (Nat → Int32) → Option (Int32 × (Nat → Int32))) (me : Nat → Int32) (hm : ∀ c, c < 12 → sm (me c)) :
    ∃ me', mK1_sortIntoClasses_L32 (nI nd) x K 5000 0 me = K me' ∧ ∀ c, c < 12 → sm (me' c) ∧ ∀ j, j < 12 → bt (me' c) j = (bt (me c) j || (decide (j = nd) && bt x c)) := by
  refine lpU (S := Nat → Int32) (fun f i st => mK1_sortIntoClasses_L32 (nI nd) x K f (nI i) st) (fun o => ∃ me', o = K me' ∧ ∀ c, c < 12 → sm (me' c) ∧ ∀ j, j < 12 → bt (me' c) j = (bt (me c) j || (decide (j = nd) && bt x c))) 12
    (fun i st => ∀ c, c < 12 → sm (st c) ∧ ∀ j, j < 12 → bt (st c) j = (bt (me c) j || (decide (j = nd) && (bt x c && decide (c < i))))) ?_ ?_ 5000 0 me (by omega) (by omega) ?_
  · intro f st h
    refine ⟨st, ?_, fun c hc => ⟨(h c hc).1, fun j hj => by rw [(h c hc).2 j hj, decide_eq_true hc, Bool.and_true]⟩⟩
    show mK1_sortIntoClasses_B32 (nI nd) x K _ (nI 12) st = K st
    unfold mK1_sortIntoClasses_B32
    rw [if_pos ((le12 (by omega)).mpr (by omega))]
  · intro f i st hi h
    have hgo : ¬ (12 : Int32) ≤ nI i := fun q => by rw [le12 (by omega)] at q; omega
    by_cases e0 : x = 0
    · left
      refine ⟨st, ?_, fun c hc => ⟨(h c hc).1, fun j hj => by rw [(h c hc).2 j hj, e0, b_0]; simp⟩⟩
      show mK1_sortIntoClasses_B32 (nI nd) x K _ (nI i) st = K st
      unfold mK1_sortIntoClasses_B32
      rw [if_neg hgo, if_pos e0]
    · right
      cases hb : bt x i with
      | false =>
        refine ⟨st, fun c hc => ⟨(h c hc).1, fun j hj => ?_⟩, ?_⟩
        · rw [(h c hc).2 j hj]
          by_cases e : c = i
          · subst e; rw [hb]; simp
          · rw [show decide (c < i + 1) = decide (c < i) from decide_eq_decide.mpr (by omega)]
        · show mK1_sortIntoClasses_B32 (nI nd) x K (mK1_sortIntoClasses_L32 (nI nd) x K f) (nI i) st = _
          unfold mK1_sortIntoClasses_B32
          rw [if_neg hgo, if_neg e0, hasM (by omega), bd1v, hb, if_pos bI_f, nIs, bd1v]
      | true =>
        refine ⟨upd st i (st i ||| (1 : Int32) <<< (nI nd &&& 31)), fun c hc => ?_, ?_⟩
        · by_cases e : c = i
          · subst e
            rw [upd_s]
            refine ⟨sm_or (h c hc).1 (sm_one hnd), fun j hj => ?_⟩
            rw [b_or, (h c hc).2 j hj, bt_one (by omega) (by omega), hb, decide_eq_false (show ¬ c < c by omega), decide_eq_true (show c < c + 1 by omega)]
            simp
          · rw [upd_n e]
            refine ⟨(h c hc).1, fun j hj => ?_⟩
            rw [(h c hc).2 j hj, show decide (c < i + 1) = decide (c < i) from decide_eq_decide.mpr (by omega)]
        · show mK1_sortIntoClasses_B32 (nI nd) x K (mK1_sortIntoClasses_L32 (nI nd) x K f) (nI i) st = _
          unfold mK1_sortIntoClasses_B32
          rw [if_neg hgo, if_neg e0, hasM (by omega), bd1v, hb, if_neg (by rw [bI_t]; decide), rdN hi (by decide), bd1v, wrtN hi (by decide), bd1v, nIs, bd1v]
  · intro c hc
    exact ⟨hm c hc, fun j hj => by simp⟩
set_option maxHeartbeats 1000000 in
theorem sortAll {ob : Nat → Int32} {th : Nat → Bool} (h : OBr ob th) (me : Nat → Int32) : ∃ me', mK1_sortIntoClasses 0 ob me = some (1, me') ∧ MEr me' th := by
  unfold mK1_sortIntoClasses
  rw [if_pos rfl]
  obtain ⟨m0, e0, hz⟩ := fillZ me
  rw [e0, bd1v]
  refine lpU (S := Nat → Int32) (fun f i st => mK1_sortIntoClasses_L18 ob mK1_sortIntoClasses_A18 f (nI i) st) (fun o => ∃ me', o = some (1, me') ∧ MEr me' th) 12
    (fun i st => ∀ c, c < 12 → sm (st c) ∧ ∀ j, j < 12 → bt (st c) j = (isO th j c && decide (j < i))) ?_ ?_ 5000 0 m0 (by omega) (by omega) ?_
  · intro f st hJ
    refine ⟨st, ?_, fun c hc => ⟨(hJ c hc).1, fun j hj => by rw [(hJ c hc).2 j hj, decide_eq_true hj, Bool.and_true]⟩⟩
    show mK1_sortIntoClasses_B18 ob mK1_sortIntoClasses_A18 _ (nI 12) st = _
    unfold mK1_sortIntoClasses_B18
    rw [if_pos ((le12 (by omega)).mpr (by omega))]
    rfl
  · intro f i st hi hJ
    right
    obtain ⟨x, ex, hx, hxb⟩ := classesOf h hi
    obtain ⟨me', em, hm⟩ := sortIn hx hi (mK1_sortIntoClasses_A32 (nI i) (mK1_sortIntoClasses_L18 ob mK1_sortIntoClasses_A18 f)) st (fun c hc => (hJ c hc).1)
    refine ⟨me', fun c hc => ⟨(hm c hc).1, fun j hj => ?_⟩, ?_⟩
    · rw [(hm c hc).2 j hj, (hJ c hc).2 j hj, hxb c hc]
      by_cases e : j = i
      · subst e
        simp
      · rw [decide_eq_false e, show decide (j < i + 1) = decide (j < i) from decide_eq_decide.mpr (by omega)]
        simp
    · show mK1_sortIntoClasses_B18 ob mK1_sortIntoClasses_A18 (mK1_sortIntoClasses_L18 ob mK1_sortIntoClasses_A18 f) (nI i) st = _
      unfold mK1_sortIntoClasses_B18
      rw [if_neg (fun q => by rw [le12 (by omega)] at q; omega), ex, bd1v, em]
      unfold mK1_sortIntoClasses_A32
      rw [nIs, bd1v]
  · intro c hc
    rw [hz c hc]
    exact ⟨sm_0, fun j hj => by rw [b_0]; simp⟩
