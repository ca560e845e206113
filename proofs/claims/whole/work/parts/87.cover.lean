/-! own rows: cover: the class's walk and the reference's are one walk -/
theorem resS_mono {f : Nat → Nat → Bool} : ∀ {n i : Nat}, i ≤ n → resS f i ≤ resS f n
  | 0, i, h => by rw [show i = 0 by omega]; exact Nat.le_refl _
  | n + 1, i, h => by
    by_cases e : i = n + 1
    · rw [e]; exact Nat.le_refl _
    · exact Nat.le_trans (resS_mono (n := n) (i := i) (by omega)) (Nat.le_add_right _ _)
theorem cntB_all0 {f : Nat → Bool} {n : Nat} (h : ∀ i, i < n → f i = false) : cntB f n = 0 := by rw [cntB_congr (g := fun _ => false) h, cntB_0]
set_option maxHeartbeats 1000000 in
theorem allRightC {ob me tiob time ki ta pr nu pu co we : Nat → Int32} {tiso : Int32} {th U : Nat → Bool} {C V K T P N : Nat → Nat} {rn cn : Nat} (h1 : OBr ob th) (h2 : MEr me th) (r1 : RUr ki ta pr nu K T P N rn) (hrn : rn ≤ 10) (c1 : CHr pu co we U C V cn) (hcn : cn ≤ 12) (S : Int32) :
    ∃ tiob' time', mK0_putsAllRight 1 ob me tiso tiob time (nI rn) ki ta pr nu (nI cn) pu co S = some (bI (decide (resS (resB (thS th U C S cn) K T P N) rn = 0)), 1, tiob', time') := by
  obtain ⟨tob', tme', e3, h4, h5⟩ := tryOutT (tiso := tiso) (tiob := tiob) (time := time) h1 h2 c1 hcn S
  refine ⟨tob', tme', ?_⟩
  unfold mK0_putsAllRight
  rw [e3, bd3v]
  refine lpU (S := Unit) (fun f i _ => mK0_putsAllRight_L7 (nI rn) ki ta pr nu 1 tob' tme' (mK0_putsAllRight_A7 1 tob' tme') f (nI i)) (fun o => o = some (bI (decide (resS (resB (thS th U C S cn) K T P N) rn = 0)), 1, tob', tme')) rn (fun i _ => resS (resB (thS th U C S cn) K T P N) i = 0) ?_ ?_ 5000 0 () (by omega) (by omega) rfl
  · intro f _ hJ
    show mK0_putsAllRight_B7 (nI rn) ki ta pr nu 1 tob' tme' (mK0_putsAllRight_A7 1 tob' tme') _ (nI rn) = _
    unfold mK0_putsAllRight_B7
    rw [if_pos (nI_le (Nat.le_refl rn) (by omega)), decide_eq_true hJ]
    rfl
  · intro f i _ hi hJ
    obtain ⟨z, q1, q2, q3⟩ := failingC h4 h5 r1 hrn hi
    show (mK0_putsAllRight_B7 (nI rn) ki ta pr nu 1 tob' tme' (mK0_putsAllRight_A7 1 tob' tme') (mK0_putsAllRight_L7 (nI rn) ki ta pr nu 1 tob' tme' (mK0_putsAllRight_A7 1 tob' tme') f) (nI i) = _) ∨ _
    by_cases e : z = 0
    · right
      refine ⟨(), ?_, ?_⟩
      · show resS (resB (thS th U C S cn) K T P N) i + cntB _ 12 = 0
        rw [hJ, cntB_all0 (fun x hx => by rw [← q3 x hx]; exact (eq0_sm q2).mp e x hx)]
      · show mK0_putsAllRight_B7 (nI rn) ki ta pr nu 1 tob' tme' (mK0_putsAllRight_A7 1 tob' tme') (mK0_putsAllRight_L7 (nI rn) ki ta pr nu 1 tob' tme' (mK0_putsAllRight_A7 1 tob' tme') f) (nI i) = _
        unfold mK0_putsAllRight_B7
        rw [if_neg (fun w => by rw [nI_leI (by omega) (by omega)] at w; omega), q1, bd1v, if_pos e, nIs, bd1v]
    · left
      unfold mK0_putsAllRight_B7
      rw [if_neg (fun w => by rw [nI_leI (by omega) (by omega)] at w; omega), q1, bd1v, if_neg e, decide_eq_false ?_]
      · rfl
      · intro q
        refine e ((eq0_sm q2).mpr fun x hx => ?_)
        rw [q3 x hx]
        have hm := resS_mono (f := resB (thS th U C S cn) K T P N) (n := rn) (i := i + 1) (by omega)
        have h0 : cntB (resB (thS th U C S cn) K T P N i) 12 = 0 := by
          have : resS (resB (thS th U C S cn) K T P N) (i + 1) = resS (resB (thS th U C S cn) K T P N) i + cntB (resB (thS th U C S cn) K T P N i) 12 := rfl
          omega
        exact cntB_z h0 hx
/-- the best so far, in both -/
def BW (V : Nat → Nat) (b2 bw ic cv : Int32) (n cn : Nat) : Prop := (b2 = -1 ∧ bw = 109 ∧ ic = 0) ∨ (b2 = cv ∧ ic = 1 ∧ bw = nI (wsum V cv cn) ∧ sm cv ∧ below cv cn ∧ cntB (bt cv) 12 ≤ n)
theorem BW_up {V : Nat → Nat} {b2 bw ic cv : Int32} {n n' cn : Nat} (h : BW V b2 bw ic cv n cn) (hn : n ≤ n') : BW V b2 bw ic cv n' cn := by
  rcases h with h | ⟨a, b, c, d, e, f⟩
  · exact Or.inl h
  · exact Or.inr ⟨a, b, c, d, e, by omega⟩
abbrev cLC (A : Nat) (ob me : Nat → Int32) (rn : Nat) (ki ta pr nu : Nat → Int32) (cn : Nat) (pu co we : Nat → Int32) (M : Nat) := mK0_lightestCover_L21 (nI A) 1 ob me (nI rn) ki ta pr nu (nI cn) pu co we (nI M) mK0_lightestCover_A21
abbrev cLO (A rn cn : Nat) (there ki ta pr nu pu co we : Nat → Int32) (sz : Nat) (h : Nat) := mK5_cover_L29 (nI rn) (nI cn) (nI A) there ki ta pr nu pu co we (nI sz) (mK5_cover_A29 we) h
abbrev cLR (A rn cn : Nat) (there ki ta pr nu pu co we : Nat → Int32) (sz : Nat) (h n : Nat) := mK5_cover_L56 (nI rn) (nI cn) (nI A) there ki ta pr nu pu co we (nI n) (mK5_cover_A56 (nI n) (cLO A rn cn there ki ta pr nu pu co we sz h))
theorem cO_end {A rn cn sz : Nat} {there ki ta pr nu pu co we : Nat → Int32} (hcn : cn ≤ 12) (hsz : sz ≤ 12) (n' : Nat) (hn' : n' ≤ 13) (s : Int32) (hs : s = 0 ∨ min sz cn < n') (h : Nat) (t ic cv : Int32) (now picks cl : Nat → Int32) :
    cLO A rn cn there ki ta pr nu pu co we sz (h + 1) (nI n') t s ic cv now picks cl = mK5_cover_A29 we t s ic cv now picks cl := by
  show mK5_cover_B29 (nI rn) (nI cn) (nI A) there ki ta pr nu pu co we (nI sz) (mK5_cover_A29 we) _ (nI n') t s ic cv now picks cl = _
  unfold mK5_cover_B29
  by_cases q1 : nI sz < nI n'
  · rw [if_pos q1]
  · rw [if_neg q1]
    by_cases q2 : nI cn < nI n'
    · rw [if_pos q2]
    · rw [if_neg q2]
      rw [nI_ltI (by omega) (by omega)] at q1 q2
      rcases hs with e | e
      · rw [if_pos e]
      · omega
theorem cC_end {A : Nat} {ob me : Nat → Int32} {rn : Nat} {ki ta pr nu : Nat → Int32} {cn : Nat} {pu co we : Nat → Int32} {M fu : Nat} {b2 bw s t tiso : Int32} {tiob time : Nat → Int32} : cLC A ob me rn ki ta pr nu cn pu co we M (fu + 1) b2 bw (-1) s t tiso tiob time = some (b2, t, 1, tiso, tiob, time) := by
  show mK0_lightestCover_B21 (nI A) 1 ob me (nI rn) ki ta pr nu (nI cn) pu co we (nI M) mK0_lightestCover_A21 _ b2 bw (-1) s t tiso tiob time = _
  unfold mK0_lightestCover_B21
  by_cases q : 4096 ≤ s
  · rw [if_pos q]; rfl
  · rw [if_neg q, if_pos rfl]; rfl
theorem cR_end {A rn cn : Nat} {there ki ta pr nu pu co we : Nat → Int32} {sz h n g : Nat} {m t s ic cv : Int32} {now picks cl : Nat → Int32} (hm : m = 0 ∨ s = 0) : cLR A rn cn there ki ta pr nu pu co we sz h n (g + 1) m t s ic cv now picks cl = cLO A rn cn there ki ta pr nu pu co we sz h (nI (n + 1)) t s ic cv now picks cl := by
  have hA : mK5_cover_A56 (nI n) (cLO A rn cn there ki ta pr nu pu co we sz h) t s ic cv now picks cl = cLO A rn cn there ki ta pr nu pu co we sz h (nI (n + 1)) t s ic cv now picks cl := by
    unfold mK5_cover_A56
    rw [nIs, bd1v]
  show mK5_cover_B56 (nI rn) (nI cn) (nI A) there ki ta pr nu pu co we (nI n) (mK5_cover_A56 (nI n) (cLO A rn cn there ki ta pr nu pu co we sz h)) _ m t s ic cv now picks cl = _
  unfold mK5_cover_B56
  by_cases q : m = 0
  · rw [if_pos q, hA]
  · rw [if_neg q, if_pos (hm.resolve_left q), hA]
def cOut (V : Nat → Nat) (we : Nat → Int32) (cn : Nat) (oc : Option (Int32 × Int32 × Int32 × Int32 × (Nat → Int32) × (Nat → Int32))) (orf : Option (Int32 × Int32 × Int32 × Int32 × Int32 × (Nat → Int32) × (Nat → Int32) × (Nat → Int32))) : Prop :=
  ∃ (t : Nat) (ls : Bool) (b2 bw ic cv tiso : Int32) (tiob time now picks cl : Nat → Int32), oc = some (b2, nI t, bI ls, tiso, tiob, time) ∧ orf = mK5_cover_A29 we (nI t) (bI ls) ic cv now picks cl ∧ BW V b2 bw ic cv 12 cn
set_option maxHeartbeats 4000000 in
theorem coverSim {ob me there ki ta pr nu ki' ta' pr' nu' pu co we pu' co' we' : Nat → Int32} {th U : Nat → Bool} {C V K T P N : Nat → Nat} {rn cn sz A : Nat}
    (h1 : OBr ob th) (h2 : MEr me th) (h3 : BAr there th 864) (r1 : RUr ki ta pr nu K T P N rn) (r2 : RUr ki' ta' pr' nu' K T P N rn) (hrn : rn ≤ 10) (c1 : CHr pu co we U C V cn) (c2 : CHr pu' co' we' U C V cn) (hcn : cn ≤ 12) (hsz : sz ≤ 12) (hA : A ≤ 5000) :
    ∀ (μ : Nat) (S : Int32) (Q : Nat → Nat) (n st t fu g h : Nat) (b2 bw ic cv tiso : Int32) (tiob time now picks cl : Nat → Int32), 4096 ≤ posS S + μ → SQ S Q n → Inc Q n cn → n ≤ min sz cn → PQ picks Q n → st ≤ posS S → t ≤ A → BW V b2 bw ic cv n cn → μ < fu → μ < g → 13 < h + n → μ ≤ 4999 →
      cOut V we' cn (cLC A ob me rn ki ta pr nu cn pu co we (min sz cn) fu b2 bw S (nI st) (nI t) tiso tiob time) (cLR A rn cn there ki' ta' pr' nu' pu' co' we' sz h n g 1 (nI t) 1 ic cv now picks cl) := by
  intro μ
  induction μ with
  | zero =>
    intro S Q n st t fu g h b2 bw ic cv tiso tiob time now picks cl hμ hS
    have := posS_lt hS.1
    omega
  | succ μ ih =>
    intro S Q n st t fu g h b2 bw ic cv tiso tiob time now picks cl hμ hS hQ hnM hP hst ht hB hfu hg hh h4
    obtain ⟨fu, rfl⟩ : ∃ q, fu = q + 1 := ⟨fu - 1, by omega⟩
    obtain ⟨g, rfl⟩ : ∃ q, g = q + 1 := ⟨g - 1, by omega⟩
    obtain ⟨h, rfl⟩ : ∃ q, h = q + 1 := ⟨h - 1, by omega⟩
    have hn12 : n ≤ 12 := by omega
    have hQ12 : ∀ k, k < n → Q k < 12 := fun k hk => by have := hQ.1 k hk; omega
    have hbel : below S cn := fun i a b => by
      rcases Nat.lt_or_ge i 12 with q | q
      · rw [hS.2 i q]; exact ofQ_f fun k hk e => by have := hQ.1 k hk; omega
      · exact hS.1 i q b
    have hSm : ¬ S = -1 := fun e => by
      have := hS.1 12 (by omega) (by omega)
      rw [e, b_m1 12 (by omega)] at this; cases this
    have hcnt : cntB (bt S) 12 = n := cntSQ hcn hS hQ
    have hpos := posS_lt hS.1
    have cont : ∀ (t' : Nat) (b2' bw' ic' cv' tiso' : Int32) (tiob' time' now' cl' : Nat → Int32), t' ≤ A → BW V b2' bw' ic' cv' n cn →
        cOut V we' cn (bd1 (mK0_nextSet S (nI cn) (nI (min sz cn))) fun S' => bd1 (some (nI st + 1)) fun s' => cLC A ob me rn ki ta pr nu cn pu co we (min sz cn) fu b2' bw' S' s' (nI t') tiso' tiob' time') (if nI n ≤ 0 then cLR A rn cn there ki' ta' pr' nu' pu' co' we' sz (h + 1) n g 0 (nI t') 1 ic' cv' now' picks cl' else bd2 (mK5_next (nI cn) picks (nI n)) fun m p => if m = 0 then cLR A rn cn there ki' ta' pr' nu' pu' co' we' sz (h + 1) n g 0 (nI t') 1 ic' cv' now' p cl' else cLR A rn cn there ki' ta' pr' nu' pu' co' we' sz (h + 1) n g 1 (nI t') 1 ic' cv' now' p cl') := by
      intro t' b2' bw' ic' cv' tiso' tiob' time' now' cl' ht' hB'
      rcases lastOrMov hQ with hl | ⟨k, hm⟩
      · have hrf : (if nI n ≤ 0 then cLR A rn cn there ki' ta' pr' nu' pu' co' we' sz (h + 1) n g 0 (nI t') 1 ic' cv' now' picks cl' else bd2 (mK5_next (nI cn) picks (nI n)) fun m p => if m = 0 then cLR A rn cn there ki' ta' pr' nu' pu' co' we' sz (h + 1) n g 0 (nI t') 1 ic' cv' now' p cl' else cLR A rn cn there ki' ta' pr' nu' pu' co' we' sz (h + 1) n g 1 (nI t') 1 ic' cv' now' p cl') = cLR A rn cn there ki' ta' pr' nu' pu' co' we' sz (h + 1) n g 0 (nI t') 1 ic' cv' now' picks cl' := by
          by_cases e0 : n = 0
          · rw [if_pos (by rw [e0]; decide)]
          · rw [if_neg (fun q => by rw [nn0, nI_leI (by omega) (by omega)] at q; omega), nextR_last hcn (by omega) hP hQ hl, bd2v, if_pos rfl]
        rw [hrf, nextC_last hcn hS hQ hl]
        obtain ⟨g, rfl⟩ : ∃ q, g = q + 1 := ⟨g - 1, by omega⟩
        rw [cR_end (Or.inl rfl)]
        by_cases e : n = min sz cn
        · obtain ⟨fu, rfl⟩ : ∃ q, fu = q + 1 := ⟨fu - 1, by omega⟩
          rw [if_pos ((nI_leI (by omega) (by omega)).mpr (by omega)), bd1v, bd1v, cC_end, cO_end hcn hsz (n + 1) (by omega) 1 (Or.inr (by omega))]
          exact ⟨t', true, b2', bw', ic', cv', tiso', tiob', time', now', picks, cl', rfl, rfl, BW_up hB' hn12⟩
        · rw [if_neg (fun q => by rw [nI_leI (by omega) (by omega)] at q; omega), bd1v, nIs, bd1v]
          obtain ⟨pi', e1, e2⟩ := firstR picks (n := n + 1) (by omega)
          have e3 : cLO A rn cn there ki' ta' pr' nu' pu' co' we' sz (h + 1) (nI (n + 1)) (nI t') 1 ic' cv' now' picks cl' = cLR A rn cn there ki' ta' pr' nu' pu' co' we' sz h (n + 1) 5000 1 (nI t') 1 ic' cv' now' pi' cl' := by
            show mK5_cover_B29 (nI rn) (nI cn) (nI A) there ki' ta' pr' nu' pu' co' we' (nI sz) (mK5_cover_A29 we') _ (nI (n + 1)) (nI t') 1 ic' cv' now' picks cl' = _
            unfold mK5_cover_B29
            rw [if_neg (fun q => by rw [nI_ltI (by omega) (by omega)] at q; omega), if_neg (fun q => by rw [nI_ltI (by omega) (by omega)] at q; omega), if_neg (by decide), e1, bd1v]
          have hs' : SQ (firstQ (n + 1)) id (n + 1) := firstQ_SQ (by omega)
          have hi' : Inc id (n + 1) cn := id_Inc (by omega)
          have hp := posS_size hcn hS hQ hs' hi' (by omega)
          rw [e3]
          exact ih (firstQ (n + 1)) id (n + 1) (st + 1) t' fu 5000 h b2' bw' ic' cv' tiso' tiob' time' now' pi' cl' (by omega) hs' hi' (by omega) e2 (by omega) ht' (BW_up hB' (by omega)) (by omega) (by omega) (by omega) (by omega)
      · obtain ⟨S', e1, e2, e3, e4, e5⟩ := nextC_mov hcn hS hQ hm (nI (min sz cn))
        obtain ⟨pi', e6, e7⟩ := nextR_mov hcn hP hQ hm
        have hp := posS_mov hcn hS hQ hm e2 e3 e4 e5
        have := hm.1
        rw [e1, bd1v, nIs, bd1v, if_neg (fun q => by rw [nn0, nI_leI (by omega) (by omega)] at q; omega), e6, bd2v, if_neg (by decide)]
        exact ih S' (goQ Q k) n (st + 1) t' fu g (h + 1) b2' bw' ic' cv' tiso' tiob' time' now' pi' cl' (by omega) e2 (goQ_Inc hQ hm) hnM e7 (by omega) ht' hB' (by omega) (by omega) (by omega) (by omega)
    have stop : ∃ p2, (if nI n ≤ 0 then cLR A rn cn there ki' ta' pr' nu' pu' co' we' sz (h + 1) n g 0 (nI t) 0 ic cv now picks cl else bd2 (mK5_next (nI cn) picks (nI n)) fun m p => if m = 0 then cLR A rn cn there ki' ta' pr' nu' pu' co' we' sz (h + 1) n g 0 (nI t) 0 ic cv now p cl else cLR A rn cn there ki' ta' pr' nu' pu' co' we' sz (h + 1) n g 1 (nI t) 0 ic cv now p cl) = mK5_cover_A29 we' (nI t) 0 ic cv now p2 cl := by
      obtain ⟨g, rfl⟩ : ∃ q, g = q + 1 := ⟨g - 1, by omega⟩
      simp only [cR_end (Or.inr rfl), cO_end hcn hsz (n + 1) (by omega) 0 (Or.inl rfl)]
      by_cases e0 : n = 0
      · exact ⟨picks, by rw [if_pos (by rw [e0]; decide)]⟩
      · rw [if_neg (fun q => by rw [nn0, nI_leI (by omega) (by omega)] at q; omega)]
        rcases lastOrMov hQ with hl | ⟨k, hm⟩
        · exact ⟨picks, by rw [nextR_last hcn (by omega) hP hQ hl, bd2v, if_pos rfl]⟩
        · obtain ⟨pi', e6, -⟩ := nextR_mov hcn hP hQ hm
          exact ⟨pi', by rw [e6, bd2v, if_neg (by decide)]⟩
    show cOut V we' cn (mK0_lightestCover_B21 (nI A) 1 ob me (nI rn) ki ta pr nu (nI cn) pu co we (nI (min sz cn)) mK0_lightestCover_A21 (cLC A ob me rn ki ta pr nu cn pu co we (min sz cn) fu) b2 bw S (nI st) (nI t) tiso tiob time) (mK5_cover_B56 (nI rn) (nI cn) (nI A) there ki' ta' pr' nu' pu' co' we' (nI n) (mK5_cover_A56 (nI n) (cLO A rn cn there ki' ta' pr' nu' pu' co' we' sz (h + 1))) (cLR A rn cn there ki' ta' pr' nu' pu' co' we' sz (h + 1) n g) 1 (nI t) 1 ic cv now picks cl)
    unfold mK0_lightestCover_B21 mK5_cover_B56 mK5_weigh
    rw [if_neg (fun q => by rw [nn4096, nI_leI (by omega) (by omega)] at q; omega), if_neg hSm, if_neg (by decide : ¬ (1 : Int32) = 0), if_neg (by decide : ¬ (1 : Int32) = 0), setOfR hn12 hP hQ12 hS, bd1v, bd1v, bd1v]
    by_cases e : t < A
    · obtain ⟨nw, e5, hb⟩ := beginT (now := now) h3 c2 hcn S
      obtain ⟨cl', e6⟩ := resNowR hb r2 hrn cl
      obtain ⟨tob', tme', e7⟩ := allRightC (tiso := tiso) (tiob := tiob) (time := time) h1 h2 r1 hrn c1 hcn S
      have hwS := ws1000 c1 hcn S
      have hwc := ws1000 c1 hcn cv
      have hw9 := wsum_le (V := V) (S := S) (n := cn) (fun c h => (c1 c h).2.2.2.2.2)
      have htA : ¬ nI t = nI A := fun q => by rw [nI_eq (by omega) (by omega)] at q; omega
      rw [if_pos ((nI_ltI (by omega) (by omega)).mpr e), nIs t, weightC c1 hcn, bd1v, e7, bd4v, if_neg htA, e5, bd1v, e6, bd2v, weightR c2 hcn (fun c a b => hbel c a (by omega)), bd1v, sizeR, bd1v, hcnt]
      have hre := resS_le (resB (thS th U C S cn) K T P N) rn
      rcases hB with ⟨rfl, rfl, rfl⟩ | ⟨rfl, rfl, rfl, hcs, hcb, hcc⟩
      · rw [if_neg (fun q => by rw [show (109 : Int32) = nI 109 from rfl, nI_leI (by omega) (by omega)] at q; omega), bd1v, if_pos (rfl : (0 : Int32) = 0)]
        by_cases e8 : resS (resB (thS th U C S cn) K T P N) rn = 0
        · have hz : nI (resS (resB (thS th U C S cn) K T P N) rn) = 0 := by rw [e8]; rfl
          rw [decide_eq_true e8, if_neg (by decide : ¬ bI true = 0), if_pos hz, bd6v]
          exact cont (t + 1) S _ 1 S 1 tob' tme' nw cl' (by omega) (Or.inr ⟨rfl, rfl, rfl, hS.1, hbel, by omega⟩)
        · rw [decide_eq_false e8, if_pos bI_f, if_neg (fun q => e8 ((nI_z (by omega)).mp q)), bd6v]
          exact cont (t + 1) (-1) 109 0 cv 1 tob' tme' nw cl' (by omega) (Or.inl ⟨rfl, rfl, rfl⟩)
      · rw [bd1v, if_neg (by decide : ¬ (1 : Int32) = 0), weightR c2 hcn (fun c a b => hcb c a (by omega)), bd1v, sizeR, bd1v, nn100, nI_mul, nI_mul, nI_add, nI_add]
        by_cases e9 : wsum V b2 cn ≤ wsum V S cn
        · rw [if_pos ((nI_leI (by omega) (by omega)).mpr e9), if_pos ((nI_leI (by omega) (by omega)).mpr (by omega))]
          have : (if nI (resS (resB (thS th U C S cn) K T P N) rn) = 0 then some (nI (t + 1), (1 : Int32), (1 : Int32), b2, nw, cl') else some (nI (t + 1), 1, 1, b2, nw, cl')) = some (nI (t + 1), 1, 1, b2, nw, cl') := by split <;> rfl
          rw [this, bd6v]
          exact cont (t + 1) b2 _ 1 b2 tiso tiob time nw cl' (by omega) (Or.inr ⟨rfl, rfl, rfl, hcs, hcb, hcc⟩)
        · have hq1 : ¬ nI (wsum V b2 cn) ≤ nI (wsum V S cn) := fun q => by rw [nI_leI (by omega) (by omega)] at q; omega
          have hq2 : ¬ nI (100 * wsum V b2 cn + cntB (bt b2) 12) ≤ nI (100 * wsum V S cn + n) := fun q => by rw [nI_leI (by omega) (by omega)] at q; omega
          rw [if_neg hq1, if_neg hq2]
          by_cases e8 : resS (resB (thS th U C S cn) K T P N) rn = 0
          · have hz : nI (resS (resB (thS th U C S cn) K T P N) rn) = 0 := by rw [e8]; rfl
            rw [decide_eq_true e8, if_neg (by decide : ¬ bI true = 0), if_pos hz, bd6v]
            exact cont (t + 1) S _ 1 S 1 tob' tme' nw cl' (by omega) (Or.inr ⟨rfl, rfl, rfl, hS.1, hbel, by omega⟩)
          · rw [decide_eq_false e8, if_pos bI_f, if_neg (fun q => e8 ((nI_z (by omega)).mp q)), bd6v]
            exact cont (t + 1) b2 _ 1 b2 1 tob' tme' nw cl' (by omega) (Or.inr ⟨rfl, rfl, rfl, hcs, hcb, hcc⟩)
    · rw [if_neg (fun q => e ((nI_ltI (by omega) (by omega)).mp q)), if_pos ((nI_eq (by omega) (by omega)).mpr (by omega)), bd6v]
      obtain ⟨p2, e1⟩ := stop
      rw [e1]
      exact ⟨t, false, b2, bw, ic, cv, tiso, tiob, time, now, p2, cl, rfl, rfl, BW_up hB hn12⟩
set_option maxHeartbeats 2000000 in
theorem p_cover {so : Int32} {ob me there : Nat → Int32} {th : Nat → Bool} (h : TR2 so ob me there th) {run rules : Int32} {ki ta pr nu ki' ta' pr' nu' : Nat → Int32} {K T P N : Nat → Nat} {n : Nat} (hr : RU2 run ki ta pr nu rules ki' ta' pr' nu' K T P N n) {chn changes : Int32} {pu co we pu' co' we' : Nat → Int32} {U : Nat → Bool} {C V : Nat → Nat} {cn : Nat} (hc : CH2 chn pu co we changes pu' co' we' U C V cn) {oal mt : Int32} {A : Nat} (ha : AL2 oal mt A) {olt ols tried settled : Int32} (hl : LT2 olt ols tried settled) {ocs ic cv : Int32} (hco : CO2 ocs ic cv) (tso : Int32) (tob tme now picks cl : Nat → Int32) (v1 : Int32) :
    ∃ q ocs' olt' ols' tso' tob' tme' tried' settled' ic' cv' now' picks' cl', mK0_cover ocs oal olt ols so ob me tso tob tme run ki ta pr nu chn pu co we v1 = some (q, ocs', olt', ols', tso', tob', tme') ∧ mK5_cover rules changes mt tried settled ic cv there now ki' ta' pr' nu' pu' co' we' picks cl v1 = some (q, tried', settled', ic', cv', now', picks', cl') ∧ LT2 olt' ols' tried' settled' ∧ CO2 ocs' ic' cv' := by
  obtain ⟨rfl, h1, h2, h3⟩ := h
  obtain ⟨hn, rfl, rfl, r1, r2⟩ := hr
  obtain ⟨hcn, rfl, rfl, c1, c2⟩ := hc
  obtain ⟨rfl, rfl, hA1, hA⟩ := ha
  unfold mK0_cover mK5_cover
  rw [nn12]
  rcases inR v1 12 (by decide) with ⟨sz, hz, rfl, e1⟩ | ⟨e1, e2⟩
  · rw [e1, bd1v, if_neg (by decide : ¬ (1 : Int32) = 0), if_neg (nI_pos (by omega)), if_pos ((nI_leI (by omega) (by omega)).mpr hz), nI_imin (by omega) (by omega)]
    obtain ⟨pi', e1, e2⟩ := firstR picks (n := 0) (by omega)
    have e3 : cLO A n cn there ki' ta' pr' nu' pu' co' we' sz 5000 (nI 0) (nI 0) 1 0 cv now picks cl = cLR A n cn there ki' ta' pr' nu' pu' co' we' sz 4999 0 5000 1 (nI 0) 1 0 cv now pi' cl := by
      show mK5_cover_B29 (nI n) (nI cn) (nI A) there ki' ta' pr' nu' pu' co' we' (nI sz) (mK5_cover_A29 we') _ (nI 0) (nI 0) 1 0 cv now picks cl = _
      unfold mK5_cover_B29
      rw [if_neg (fun q => by rw [nI_ltI (by omega) (by omega)] at q; omega), if_neg (fun q => by rw [nI_ltI (by omega) (by omega)] at q; omega), if_neg (by decide), e1, bd1v]
    have hS0 : SQ 0 id 0 := ⟨sm_0, fun i _ => by rw [b_0]; rfl⟩
    have hQ0 : Inc id 0 cn := id_Inc (by omega)
    have hsim := coverSim (tiso := tso) (tiob := tob) (time := tme) h1 h2 h3 r1 r2 hn c1 c2 hcn hz hA 4096 0 id 0 0 0 5000 5000 4999 (-1) 109 0 cv now pi' cl (by omega) hS0 hQ0 (by omega) e2 (by omega) (by omega) (Or.inl ⟨rfl, rfl, rfl⟩) (by omega) (by omega) (by omega) (by omega)
    rw [← e3] at hsim
    obtain ⟨t, ls, b2, bw, ic', cv', tiso, tiob, time, now', picks', cl', q1, q2, q3⟩ := hsim
    have q1' : mK0_lightestCover (nI A) olt ols 1 ob me tso tob tme (nI n) ki ta pr nu (nI cn) pu co we (nI (min sz cn)) = some (b2, nI t, bI ls, tiso, tiob, time) := q1
    have q2' : mK5_cover_L29 (nI n) (nI cn) (nI A) there ki' ta' pr' nu' pu' co' we' (nI sz) (mK5_cover_A29 we') 5000 0 0 1 0 cv now picks cl = mK5_cover_A29 we' (nI t) (bI ls) ic' cv' now' picks' cl' := q2
    rw [q1', bd6v, q2']
    unfold mK5_cover_A29
    rcases q3 with ⟨rfl, rfl, rfl⟩ | ⟨rfl, rfl, rfl, hcs, hcb, hcc⟩
    · exact ⟨-2, 0, nI t, bI ls, tiso, tiob, time, nI t, bI ls, 0, cv', now', picks', cl', by rw [if_pos rfl], by rw [if_pos rfl], ⟨rfl, rfl, ls, rfl⟩, Or.inl ⟨rfl, rfl⟩⟩
    · have hne : ¬ b2 = -1 := fun e => by
        have := hcs 12 (by omega) (by omega)
        rw [e, b_m1 12 (by omega)] at this; cases this
      exact ⟨nI (wsum V b2 cn), b2, nI t, bI ls, tiso, tiob, time, nI t, bI ls, 1, b2, now', picks', cl', by rw [if_neg hne, weightC c1 hcn, bd1v], by rw [if_neg (by decide), weightR c2 hcn (fun c a b => hcb c a (by omega)), bd1v], ⟨rfl, rfl, ls, rfl⟩, Or.inr ⟨rfl, rfl⟩⟩
  · refine ⟨-1, ocs, olt, ols, tso, tob, tme, tried, settled, ic, cv, now, picks, cl, ?_, by rw [e1]; rfl, hl, hco⟩
    by_cases hv : v1 < 0
    · rw [if_pos hv]
    · rw [if_neg hv]
      obtain ⟨l, hl, rfl⟩ := nI_of hv
      rw [if_neg (fun q => by rw [nI_leI (by omega) (by omega)] at q; exact e2 l q rfl)]
theorem p_settled {olt ols tried settled : Int32} (hl : LT2 olt ols tried settled) : ∃ r, mK0_settled ols = some r ∧ mK5_settled settled = some r := by
  obtain ⟨-, rfl, b, rfl⟩ := hl
  exact ⟨bI b, by unfold mK0_settled; rw [bz_bI, bd1v], by unfold mK5_settled; rw [bz_bI, bd1v]⟩
theorem p_tried {olt ols tried settled : Int32} (hl : LT2 olt ols tried settled) : ∃ r, mK0_tried olt = some r ∧ mK5_tried tried = some r := ⟨olt, rfl, by rw [hl.1]; rfl⟩
