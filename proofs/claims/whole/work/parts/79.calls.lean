/-! own rows: the plain calls, class and reference alike -/
theorem bd6v {A B C D E F G : Type} {a : A} {b : B} {c : C} {d : D} {e : E} {g : F} {f : A → B → C → D → E → F → Option G} : bd6 (some (a, b, c, d, e, g)) f = f a b c d e g := rfl
theorem codeC {s p o : Nat} : mK0_codeOf (nI s) (nI p) (nI o) = some (nI (72 * s + 12 * p + o)) := codeT
theorem thU_same {th : Nat → Bool} {k : Nat} {b : Bool} (h : th k = b) : thU th k b = th := by
  funext j
  unfold thU
  by_cases e : j = k
  · rw [if_pos e, e, h]
  · rw [if_neg e]
set_option maxHeartbeats 1000000 in
theorem putT {so : Int32} {ob me there : Nat → Int32} {th : Nat → Bool} (h : TR2 so ob me there th) (u : Bool) {s p o : Nat} (hs : s < 12) (hp : p < 6) (ho : o < 12) (hT : mK0_isTriple (nI s) (nI p) (nI o) = some 1) :
    ∃ so' ob' me', mK0_putOrTake so ob me (bI u) (nI s) (nI p) (nI o) = some (bI (decide (¬ th (72 * s + 12 * p + o) = u)), so', ob', me') ∧ TR2 so' ob' me' (upd there (72 * s + 12 * p + o) (bI u)) (thU th (72 * s + 12 * p + o) u) := by
  obtain ⟨rfl, h1, h2, h3⟩ := h
  unfold mK0_putOrTake
  rw [hT, bd1v, if_neg (by decide), hasT hs hp ho, bd1v, OBr_at h1 hs hp ho]
  have h3' : BAr (upd there (72 * s + 12 * p + o) (bI u)) (thU th (72 * s + 12 * p + o) u) 864 := BAr_upd h3
  by_cases e : th (72 * s + 12 * p + o) = u
  · refine ⟨1, ob, me, ?_, rfl, ?_, ?_, h3'⟩
    · rw [if_pos (by rw [e]), decide_eq_false (by simp [e])]
      rfl
    · rw [thU_same e]; exact h1
    · rw [thU_same e]; exact h2
  · obtain ⟨ob', e1, h4⟩ := alterT h1 1 u (k := 72 * s + 12 * p + o) (by omega)
    rw [if_neg (fun q => e (bI_inj q)), codeC, bd1v, e1, bd2v, decide_eq_true e]
    by_cases hq : (72 * s + 12 * p + o) % 72 < 24
    · rw [if_pos hq]
      obtain ⟨me', e2, h5⟩ := sortAll h4 me
      rw [e2, bd2v]
      exact ⟨1, ob', me', rfl, rfl, h4, h5, h3'⟩
    · rw [if_neg hq]
      have e2 : mK1_sortIntoClasses 1 ob' me = some (1, me) := by unfold mK1_sortIntoClasses; rfl
      rw [e2, bd2v]
      exact ⟨1, ob', me, rfl, rfl, h4, MEr_same h2 (sameC_U hq), h3'⟩
theorem p_triple {so : Int32} {ob me there : Nat → Int32} {th : Nat → Bool} (h : TR2 so ob me there th) (v1 v2 v3 : Int32) :
    ∃ r so' ob' me' there', mK0_triple so ob me v1 v2 v3 = some (r, so', ob', me') ∧ mK5_triple there v1 v2 v3 = some (r, there') ∧ ∃ th', TR2 so' ob' me' there' th' := by
  unfold mK0_triple mK5_triple
  rcases isTripC v1 v2 v3 with ⟨s, p, o, hs, hp, ho, rfl, rfl, rfl, e1, e2⟩ | ⟨e1, e2⟩
  · obtain ⟨so', ob', me', e3, h'⟩ := putT h true hs hp ho e1
    refine ⟨_, so', ob', me', upd there (72 * s + 12 * p + o) (bI true), by rw [← bI_t, e3, bd4v], ?_, _, h'⟩
    rw [e2, bd1v, if_neg (by decide), codeT, bd1v, rdN (by omega) (by decide), bd1v, bd1v, wrtN (by omega) (by decide), bd1v, h.2.2.2 _ (by omega), ifbI]
    cases th (72 * s + 12 * p + o) <;> rfl
  · refine ⟨-1, so, ob, me, there, ?_, by rw [e2]; rfl, th, h⟩
    unfold mK0_putOrTake
    rw [e1]; rfl
theorem p_drop {so : Int32} {ob me there : Nat → Int32} {th : Nat → Bool} (h : TR2 so ob me there th) (v1 v2 v3 : Int32) :
    ∃ r so' ob' me' there', mK0_drop so ob me v1 v2 v3 = some (r, so', ob', me') ∧ mK5_drop there v1 v2 v3 = some (r, there') ∧ ∃ th', TR2 so' ob' me' there' th' := by
  unfold mK0_drop mK5_drop
  rcases isTripC v1 v2 v3 with ⟨s, p, o, hs, hp, ho, rfl, rfl, rfl, e1, e2⟩ | ⟨e1, e2⟩
  · obtain ⟨so', ob', me', e3, h'⟩ := putT h false hs hp ho e1
    refine ⟨_, so', ob', me', upd there (72 * s + 12 * p + o) (bI false), by rw [← bI_f, e3, bd4v], ?_, _, h'⟩
    rw [e2, bd1v, if_neg (by decide), codeT, bd1v, rdN (by omega) (by decide), bd1v, bd1v, wrtN (by omega) (by decide), bd1v, h.2.2.2 _ (by omega), ifbI]
    cases th (72 * s + 12 * p + o) <;> rfl
  · refine ⟨-1, so, ob, me, there, ?_, by rw [e2]; rfl, th, h⟩
    unfold mK0_putOrTake
    rw [e1]; rfl
theorem p_results {so : Int32} {ob me there now cl : Nat → Int32} {th : Nat → Bool} (h : TR2 so ob me there th) {run rules : Int32} {ki ta pr nu ki' ta' pr' nu' : Nat → Int32} {K T P N : Nat → Nat} {n : Nat} (hr : RU2 run ki ta pr nu rules ki' ta' pr' nu' K T P N n) {chn changes : Int32} {pu co we pu' co' we' : Nat → Int32} {U : Nat → Bool} {C V : Nat → Nat} {cn : Nat} (hc : CH2 chn pu co we changes pu' co' we' U C V cn) :
    ∃ r now' cl', mK0_results ob me run ki ta pr nu = some r ∧ mK5_results rules changes there now ki' ta' pr' nu' pu' co' cl = some (r, now', cl') := by
  obtain ⟨-, h1, h2, h3⟩ := h
  obtain ⟨hn, rfl, rfl, r1, r2⟩ := hr
  obtain ⟨hcn, rfl, rfl, c1, c2⟩ := hc
  obtain ⟨nw, e, hb⟩ := beginT (now := now) h3 c2 hcn 0
  rw [thS_0 cn (by omega)] at hb
  obtain ⟨cl', e2⟩ := resNowR hb r2 hn cl
  refine ⟨_, nw, cl', resultsC h1 h2 r1 hn, ?_⟩
  unfold mK5_results
  rw [e, bd1v, e2, bd2v]
theorem p_result {so : Int32} {ob me there now cl tob tme : Nat → Int32} {th : Nat → Bool} (h : TR2 so ob me there th) {run rules : Int32} {ki ta pr nu ki' ta' pr' nu' : Nat → Int32} {K T P N : Nat → Nat} {n : Nat} (hr : RU2 run ki ta pr nu rules ki' ta' pr' nu' K T P N n) {chn changes : Int32} {pu co we pu' co' we' : Nat → Int32} {U : Nat → Bool} {C V : Nat → Nat} {cn : Nat} (hc : CH2 chn pu co we changes pu' co' we' U C V cn) (v : Int32) :
    ∃ r now' cl', mK0_result ob me tob tme run ki ta pr nu v = some r ∧ mK5_result rules changes there now ki' ta' pr' nu' pu' co' cl v = some (r, now', cl') := by
  obtain ⟨-, h1, h2, h3⟩ := h
  obtain ⟨hn, rfl, rfl, r1, r2⟩ := hr
  obtain ⟨hcn, rfl, rfl, c1, c2⟩ := hc
  unfold mK0_result
  by_cases hv : v < 0
  · obtain ⟨nw, cl', e⟩ := resultRN (now := now) (ki := ki') (ta := ta') (pr := pr') (nu := nu') (rn := nI n) h3 c2 hcn cl hv
    exact ⟨_, nw, cl', by rw [nthResN hv, bd1v], e⟩
  · obtain ⟨l, hl, rfl⟩ := nI_of hv
    obtain ⟨nw, cl', e⟩ := resultR (now := now) h3 c2 hcn r2 hn cl hl
    refine ⟨_, nw, cl', ?_, e⟩
    rw [nthResC hn (resB th K T P N) ?_ hl, bd1v]
    intro r hr
    obtain ⟨z, e1, e2, e3⟩ := failingC h1 h2 r1 hn hr
    refine ⟨z, e2, e3, fun kx rc q => ?_⟩
    unfold mK0_nthResult_B12
    rw [if_neg (fun w => by rw [nI_leI (by omega) (by omega)] at w; omega), e1, bd1v, if_pos rfl]
theorem p_isOf {so : Int32} {ob me there now cl : Nat → Int32} {th : Nat → Bool} (h : TR2 so ob me there th) {chn changes : Int32} {pu co we pu' co' we' : Nat → Int32} {U : Nat → Bool} {C V : Nat → Nat} {cn : Nat} (hc : CH2 chn pu co we changes pu' co' we' U C V cn) (v1 v2 : Int32) :
    ∃ r now' cl', mK0_isOf me v1 v2 = some r ∧ mK5_isOf changes there now pu' co' cl v1 v2 = some (r, now', cl') := by
  obtain ⟨-, h1, h2, h3⟩ := h
  obtain ⟨hcn, rfl, rfl, c1, c2⟩ := hc
  unfold mK0_isOf mK5_isOf
  rcases isNodeC v1 with ⟨a, ha, rfl, e1, e2⟩ | ⟨e1, e2⟩
  · rw [e1, e2, bd1v, bd1v, if_neg (by decide), if_neg (by decide)]
    rcases isNodeC v2 with ⟨b, hb, rfl, e3, e4⟩ | ⟨e3, e4⟩
    · obtain ⟨nw, e, hb2⟩ := beginT (now := now) h3 c2 hcn 0
      rw [thS_0 cn (by omega)] at hb2
      obtain ⟨cl', e5⟩ := isOfNow hb2 cl ha hb
      refine ⟨bI (isO th a b), nw, cl', ?_, ?_⟩
      · rw [e3, bd1v, if_neg (by decide), isMem ha hb, bd1v, (h2 b hb).2 a ha]
        cases isO th a b <;> rfl
      · rw [e4, bd1v, if_neg (by decide), e, bd1v, e5, bd2v]
        cases isO th a b <;> rfl
    · exact ⟨-1, now, cl, by rw [e3]; rfl, by rw [e4]; rfl⟩
  · exact ⟨-1, now, cl, by rw [e1]; rfl, by rw [e2]; rfl⟩
theorem p_breaks {so : Int32} {ob me there now cl tob tme : Nat → Int32} {tso : Int32} {th : Nat → Bool} (h : TR2 so ob me there th) {run rules : Int32} {ki ta pr nu ki' ta' pr' nu' : Nat → Int32} {K T P N : Nat → Nat} {n : Nat} (hr : RU2 run ki ta pr nu rules ki' ta' pr' nu' K T P N n) {chn changes : Int32} {pu co we pu' co' we' : Nat → Int32} {U : Nat → Bool} {C V : Nat → Nat} {cn : Nat} (hc : CH2 chn pu co we changes pu' co' we' U C V cn) {fon found : Int32} {se sets : Nat → Int32} {k : Nat} (hf : FO2 fon se found sets cn k) (v1 v2 : Int32) :
    ∃ r now' cl' tso' tob' tme', mK0_breaks so ob me tso tob tme run ki ta pr nu chn pu co fon se v1 v2 = some (r, tso', tob', tme') ∧ mK5_breaks rules changes found there now ki' ta' pr' nu' pu' co' sets cl v1 v2 = some (r, now', cl') := by
  obtain ⟨rfl, h1, h2, h3⟩ := h
  obtain ⟨hn, rfl, rfl, r1, r2⟩ := hr
  obtain ⟨hcn, rfl, rfl, c1, c2⟩ := hc
  unfold mK0_breaks mK5_breaks
  rcases atC hf v1 with ⟨j, hj, rfl, e1, e0, -, e2⟩ | ⟨e1, e2⟩
  · obtain ⟨tob', tme', e3, h4, h5⟩ := tryOutT (tiso := tso) (tiob := tob) (time := tme) h1 h2 c1 hcn (sets j)
    rw [e1, e2, bd1v, bd1v, if_neg e0, if_neg (by decide), e3, bd3v]
    have hj30 : j < 30 := by have := hf.1; omega
    by_cases hv : v2 < 0
    · refine ⟨-2, now, cl, 1, tob', tme', by rw [nthResN hv, bd1v], ?_⟩
      show mK5_breaks_B16 (nI n) (nI cn) there ki' ta' pr' nu' pu' co' sets (nI j) v2 mK5_breaks_A16 _ v2 0 now cl = _
      unfold mK5_breaks_B16
      rw [if_pos hv]
      split <;> rfl
    · obtain ⟨l, hl, rfl⟩ := nI_of hv
      obtain ⟨now', cl', e4⟩ := breaksR (now := now) h3 c2 hcn r2 hn cl hl hj30 rfl
      refine ⟨_, now', cl', 1, tob', tme', ?_, e4⟩
      rw [nthResC hn (brkB th (thS th U C (sets j) cn) K T P N) ?_ hl, bd1v]
      intro r hr
      obtain ⟨z, q1, q2, q3⟩ := failingC h1 h2 r1 hn hr
      obtain ⟨y, y1, y2, y3⟩ := failingC h4 h5 r1 hn hr
      refine ⟨y &&& (z ^^^ (-1)), sm_and y2, fun x hx => ?_, fun kx rc q => ?_⟩
      · rw [b_and, sm_not _ x (by omega), q3 x hx, y3 x hx]; rfl
      · unfold mK0_nthResult_B12
        rw [if_neg (fun w => by rw [nI_leI (by omega) (by omega)] at w; omega), q1, bd1v, if_neg (by decide), y1, bd1v, bd1v]
  · exact ⟨-2, now, cl, tso, tob, tme, by rw [e1]; rfl, by rw [e2]; rfl⟩
theorem FO2_0 {se sets : Nat → Int32} {n : Nat} : FO2 0 se 0 sets n 0 := ⟨by omega, rfl, rfl, fun i hi => absurd hi (by omega)⟩
theorem p_apply {so : Int32} {ob me there now cl : Nat → Int32} {th : Nat → Bool} (h : TR2 so ob me there th) {run rules : Int32} {ki ta pr nu ki' ta' pr' nu' : Nat → Int32} {K T P N : Nat → Nat} {n : Nat} (hr : RU2 run ki ta pr nu rules ki' ta' pr' nu' K T P N n) {chn changes : Int32} {pu co we pu' co' we' : Nat → Int32} {U : Nat → Bool} {C V : Nat → Nat} {cn : Nat} (hc : CH2 chn pu co we changes pu' co' we' U C V cn) {fon found : Int32} {se sets : Nat → Int32} {k : Nat} (hf : FO2 fon se found sets cn k) (v1 : Int32) :
    ∃ r so' ob' me' fon' found' there' now' cl', mK0_apply so ob me run ki ta pr nu chn pu co fon se v1 = some (r, so', ob', me', fon') ∧ mK5_apply rules changes found there now ki' ta' pr' nu' pu' co' sets cl v1 = some (r, found', there', now', cl') ∧ (∃ th', TR2 so' ob' me' there' th') ∧ ∃ k', FO2 fon' se found' sets cn k' := by
  have hT := h
  obtain ⟨rfl, h1, h2, h3⟩ := h
  obtain ⟨hn, rfl, rfl, r1, r2⟩ := hr
  obtain ⟨hcn, rfl, rfl, c1, c2⟩ := hc
  unfold mK0_apply mK5_apply
  rcases atC hf v1 with ⟨j, hj, rfl, e1, e0, -, e2⟩ | ⟨e1, e2⟩
  · have hj30 : j < 30 := by have := hf.1; omega
    rw [e1, e2, bd1v, bd1v, if_neg e0, if_neg (by decide), rdN (by omega) (by decide), bd1v]
    obtain ⟨so', ob', e3, h4, h5⟩ := doAllT h1 c1 hcn (sets j)
    have hs : ∃ me', mK1_sortIntoClasses so' ob' me = some (1, me') ∧ MEr me' (thS th U C (sets j) cn) := by
      rcases h5 with rfl | ⟨rfl, h5⟩
      · exact sortAll h4 me
      · exact ⟨me, by unfold mK1_sortIntoClasses; rfl, MEr_same h2 h5⟩
    obtain ⟨me', e4, h6⟩ := hs
    obtain ⟨nw, e5, hb⟩ := beginT (now := now) h3 c2 hcn (sets j)
    obtain ⟨cl', e6⟩ := resNowR hb r2 hn cl
    rw [e3, bd2v, e4, bd2v, show mK4_forget fon = some 0 from rfl, bd1v, resultsC h4 h6 r1 hn, bd1v, e5, bd1v]
    have hcp : ∃ there', mK5_apply_L23 nw (mK5_apply_A23 (nI n) ki' ta' pr' nu' cl nw) 5000 0 there = mK5_apply_A23 (nI n) ki' ta' pr' nu' cl nw there' ∧ BAr there' (thS th U C (sets j) cn) 864 := by
      refine lpU (S := Nat → Int32) (fun f i st => mK5_apply_L23 nw (mK5_apply_A23 (nI n) ki' ta' pr' nu' cl nw) f (nI i) st) (fun o => ∃ there', o = mK5_apply_A23 (nI n) ki' ta' pr' nu' cl nw there' ∧ BAr there' (thS th U C (sets j) cn) 864) 864 (fun i st => ∀ k, k < i → k < 864 → st k = bI (thS th U C (sets j) cn k)) ?_ ?_ 5000 0 there (by omega) (by omega) (fun k hk => absurd hk (by omega))
      · intro f st hJ
        refine ⟨st, ?_, fun k hk => hJ k hk hk⟩
        show mK5_apply_B23 nw _ _ (nI 864) st = _
        unfold mK5_apply_B23
        rw [if_pos (show (864 : Int32) ≤ nI 864 by decide)]
      · intro f i st hi hJ
        refine Or.inr ⟨upd st i (bI (thS th U C (sets j) cn i)), fun k h1 h2 => ?_, ?_⟩
        · by_cases e : k = i
          · rw [e, upd_s]
          · rw [upd_n e]; exact hJ k (by omega) h2
        · show mK5_apply_B23 nw _ (mK5_apply_L23 nw (mK5_apply_A23 (nI n) ki' ta' pr' nu' cl nw) f) (nI i) st = _
          unfold mK5_apply_B23
          rw [if_neg (fun q => by rw [nn864, nI_leI (by omega) (by omega)] at q; omega), rdN hi (by decide), bd1v, hb i hi, nar_bI, wrtN hi (by decide), bd1v, nIs, bd1v]
    obtain ⟨there', e7, hb7⟩ := hcp
    rw [e7]
    unfold mK5_apply_A23
    rw [e6, bd2v]
    exact ⟨_, 1, ob', me', 0, 0, there', nw, cl', rfl, rfl, ⟨_, rfl, h4, h6, hb7⟩, 0, FO2_0⟩
  · exact ⟨-2, 1, ob, me, fon, found, there, now, cl, by rw [e1]; rfl, by rw [e2]; rfl, ⟨th, hT⟩, k, hf⟩
theorem p_set {fon found : Int32} {se sets : Nat → Int32} {cn k : Nat} (hf : FO2 fon se found sets cn k) (v1 v2 : Int32) : ∃ r, mK0_set fon se v1 v2 = some r ∧ mK5_set found sets v1 v2 = some r := by
  unfold mK0_set mK5_set
  rcases atC hf v1 with ⟨j, hj, rfl, e1, e0, -, e2⟩ | ⟨e1, e2⟩
  · have hj30 : j < 30 := by have := hf.1; omega
    obtain ⟨r, a, b⟩ := nth_same (sets j) v2
    exact ⟨r, by rw [e1, bd1v, a, bd1v], by rw [e2, bd1v, if_neg (by decide), rdN (by omega) (by decide), bd1v, b, bd1v]⟩
  · refine ⟨-2, ?_, by rw [e2]; rfl⟩
    rw [e1, bd1v]
    by_cases hv : v2 < 0
    · rw [nthMemN hv, bd1v]
    · obtain ⟨l, hl, rfl⟩ := nI_of hv
      rw [nthMemC hl, bd1v]
      have : ∀ a i, nthF (bt 0) a i l = none := by
        intro a
        induction a with
        | zero => intro i; rfl
        | succ a ih => intro i; rw [nthF, b_0, if_neg (by decide), ih]
      rw [this]
      rfl
theorem p_weight {fon found : Int32} {se sets : Nat → Int32} {cn k : Nat} (hf : FO2 fon se found sets cn k) {chn changes : Int32} {pu co we pu' co' we' : Nat → Int32} {U : Nat → Bool} {C V : Nat → Nat} (hc : CH2 chn pu co we changes pu' co' we' U C V cn) (v1 : Int32) : ∃ r, mK0_weight chn we fon se v1 = some r ∧ mK5_weight found we' sets v1 = some r := by
  obtain ⟨hcn, rfl, rfl, c1, c2⟩ := hc
  unfold mK0_weight mK5_weight
  rcases atC hf v1 with ⟨j, hj, rfl, e1, e0, hb, e2⟩ | ⟨e1, e2⟩
  · have hj30 : j < 30 := by have := hf.1; omega
    refine ⟨_, by rw [e1, bd1v, if_neg e0, weightC c1 hcn, bd1v], ?_⟩
    rw [e2, bd1v, if_neg (by decide), rdN (by omega) (by decide), bd1v, weightR c2 hcn (fun c a b => hb c a (by omega)), bd1v]
  · exact ⟨-2, by rw [e1]; rfl, by rw [e2]; rfl⟩
theorem nthMem0 (v : Int32) : mK0_nthMember 0 v = some (-2) := by
  by_cases hv : v < 0
  · exact nthMemN hv
  · obtain ⟨l, hl, rfl⟩ := nI_of hv
    rw [nthMemC hl]
    have : ∀ a i, nthF (bt 0) a i l = none := by
      intro a
      induction a with
      | zero => intro i; rfl
      | succ a ih => intro i; rw [nthF, b_0, if_neg (by decide), ih]
    rw [this]
    rfl
def CO2 (ocs ic cv : Int32) : Prop := (ic = 0 ∧ ocs = 0) ∨ (ic = 1 ∧ ocs = cv)
theorem p_covered {ocs ic cv : Int32} (h : CO2 ocs ic cv) (v : Int32) : ∃ r, mK0_covered ocs v = some r ∧ mK5_covered ic cv v = some r := by
  unfold mK0_covered mK5_covered
  rcases h with ⟨rfl, rfl⟩ | ⟨rfl, rfl⟩
  · exact ⟨-2, by rw [nthMem0, bd1v], rfl⟩
  · obtain ⟨r, a, b⟩ := nth_same ocs v
    exact ⟨r, by rw [a, bd1v], by rw [if_neg (by decide), b, bd1v]⟩
def AL2 (oal mt : Int32) (A : Nat) : Prop := oal = nI A ∧ mt = nI A ∧ 1 ≤ A ∧ A ≤ 5000
theorem in1 (v : Int32) (m : Nat) (hm : m < 2 ^ 31) : (∃ j, 1 ≤ j ∧ j ≤ m ∧ v = nI j ∧ mK5_in v 1 (nI m) = some 1 ∧ ¬ v < 1 ∧ v ≤ nI m) ∨ (mK5_in v 1 (nI m) = some 0 ∧ (v < 1 ∨ (¬ v < 1 ∧ ¬ v ≤ nI m))) := by
  unfold mK5_in
  by_cases h0 : v < 1
  · right
    rw [if_pos h0]
    exact ⟨rfl, Or.inl h0⟩
  · rw [if_neg h0]
    have h1 : ¬ v < 0 := fun q => h0 (by rw [Int32.lt_iff_toInt_lt] at q ⊢; have : (1 : Int32).toInt = 1 := by decide
                                         have : (0 : Int32).toInt = 0 := by decide
                                         omega)
    obtain ⟨j, hj, rfl⟩ := nI_of h1
    have hj1 : 1 ≤ j := by
      rcases Nat.eq_zero_or_pos j with rfl | q
      · exact absurd (by decide) h0
      · exact q
    by_cases h2 : m < j
    · right
      rw [if_pos ((nI_ltI (by omega) (by omega)).mpr h2)]
      exact ⟨rfl, Or.inr ⟨h0, fun q => by rw [nI_leI (by omega) (by omega)] at q; omega⟩⟩
    · left
      rw [if_neg (fun q => h2 ((nI_ltI (by omega) (by omega)).mp q))]
      exact ⟨j, hj1, by omega, rfl, rfl, h0, (nI_leI (by omega) (by omega)).mpr (by omega)⟩
theorem p_tries {oal mt : Int32} {A : Nat} (h : AL2 oal mt A) (v : Int32) : ∃ r oal' mt', mK0_tries oal v = some (r, oal') ∧ mK5_tries mt v = some (r, mt') ∧ ∃ A', AL2 oal' mt' A' := by
  unfold mK0_tries mK5_tries
  rw [nn5000]
  rcases in1 v 5000 (by decide) with ⟨j, h1, h2, rfl, e1, e2, e3⟩ | ⟨e1, e2 | ⟨e2, e3⟩⟩
  · exact ⟨nI j, nI j, nI j, by rw [if_neg e2, if_pos e3], by rw [e1]; rfl, j, rfl, rfl, h1, h2⟩
  · exact ⟨-1, oal, mt, by rw [if_pos e2], by rw [e1]; rfl, A, h⟩
  · exact ⟨-1, oal, mt, by rw [if_neg e2, if_neg e3], by rw [e1]; rfl, A, h⟩
