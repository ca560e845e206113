/-! own rows: find: the class's walk and the reference's are one walk -/
theorem bd8v {A B C D E F H I G : Type} {a : A} {b : B} {c : C} {d : D} {e : E} {g : F} {h : H} {i : I} {f : A → B → C → D → E → F → H → I → Option G} : bd8 (some (a, b, c, d, e, g, h, i)) f = f a b c d e g h i := rfl
theorem nI_imin {a b : Nat} (ha : a < 2 ^ 31) (hb : b < 2 ^ 31) : imin (nI a) (nI b) = nI (min a b) := by
  unfold imin
  by_cases h : b < a
  · rw [if_pos ((nI_ltI hb ha).mpr h), Nat.min_eq_right (by omega)]
  · rw [if_neg (fun q => h ((nI_ltI hb ha).mp q)), Nat.min_eq_left (by omega)]
theorem ws1000 {pu co we : Nat → Int32} {U : Nat → Bool} {C V : Nat → Nat} {cn : Nat} (hc : CHr pu co we U C V cn) (hcn : cn ≤ 12) (y : Int32) : wsum V y cn < 1000 := by
  have := wsum_le (V := V) (S := y) (n := cn) (fun c h => (hc c h).2.2.2.2.2)
  omega
/-- found sets, in the order of their finding -/
def FD (D : Nat → Int32) (c n cn : Nat) : Prop := (∀ i, i < c → ¬ D i = 0 ∧ below (D i) cn ∧ cntB (bt (D i)) 12 ≤ n) ∧ ∀ i j, i < j → j < c → cntB (bt (D i)) 12 ≤ cntB (bt (D j)) 12
theorem FD_up {D : Nat → Int32} {c n n' cn : Nat} (h : FD D c n cn) (hn : n ≤ n') : FD D c n' cn := ⟨fun i hi => ⟨(h.1 i hi).1, (h.1 i hi).2.1, Nat.le_trans (h.1 i hi).2.2 hn⟩, h.2⟩
theorem FD_add {D : Nat → Int32} {c n cn : Nat} (h : FD D c n cn) {S : Int32} (h0 : ¬ S = 0) (hb : below S cn) (hc : cntB (bt S) 12 = n) : FD (upd D c S) (c + 1) n cn := by
  constructor
  · intro i hi
    by_cases e : i = c
    · rw [e, upd_s]; exact ⟨h0, hb, by omega⟩
    · rw [upd_n e]; exact h.1 i (by omega)
  · intro i j hij hj
    by_cases e : j = c
    · rw [e, upd_s, upd_n (by omega), hc]; exact (h.1 i (by omega)).2.2
    · rw [upd_n e, upd_n (by omega)]; exact h.2 i j hij (by omega)
theorem Fh_add {w : Int32 → Nat} {D fose : Nat → Int32} {c : Nat} (S : Int32) (h : ∀ i, i < c → fose i = Fh w D c i) : ∀ i, i < c + 1 → insF w S fose c i = Fh w (upd D c S) (c + 1) i := by
  intro i hi
  rw [Fh, upd_s]
  exact insF_congr w S c _ _ (fun j hj => by rw [h j hj]; exact Fh_congr w c (fun q hq => by rw [upd_n (by omega)]) j hj) i (by omega)
theorem Fh_out {w : Int32 → Nat} {D fose D2 : Nat → Int32} {c n cn : Nat} (hD : FD D c n cn) (h1 : ∀ i, i < c → fose i = Fh w D c i) (h2 : ∀ i, i < c → D2 i = Fh w D c i) : ∀ i, i < c → fose i = D2 i ∧ ¬ D2 i = 0 ∧ below (D2 i) cn := by
  intro i hi
  rw [h1 i hi, h2 i hi]
  exact ⟨rfl, Fh_all w D (fun y => ¬ y = 0 ∧ below y cn) c (fun j hj => ⟨(hD.1 j hj).1, (hD.1 j hj).2.1⟩) i hi⟩
abbrev fLC (A : Nat) (ob me ki ta pr nu : Nat → Int32) (cn : Nat) (pu co we : Nat → Int32) (r x M : Nat) := mK0_findSets_L34 (nI A) 1 ob me ki ta pr nu (nI cn) pu co we (nI r) (nI x) (nI M) mK0_findSets_A34
abbrev fLO (A cn : Nat) (there ki ta pr nu pu co we : Nat → Int32) (r x sz : Nat) (h : Nat) := mK5_find_L56 (nI cn) (nI A) there ki ta pr nu pu co (nI r) (nI x) (nI sz) (mK5_find_A56 we) h
abbrev fLR (A cn : Nat) (there ki ta pr nu pu co we : Nat → Int32) (r x sz : Nat) (h n : Nat) := mK5_find_L87 (nI cn) (nI A) there ki ta pr nu pu co (nI r) (nI x) (nI n) (mK5_find_A87 (nI n) (fLO A cn there ki ta pr nu pu co we r x sz h))
/-- the reference's end: what was found comes into order -/
theorem finR {we pu co there ki ta pr nu : Nat → Int32} {U : Nat → Bool} {C V : Nat → Nat} {A cn r x sz : Nat} (hc : CHr pu co we U C V cn) (hcn : cn ≤ 12) (hsz : sz ≤ 12) {D : Nat → Int32} {c n : Nat} (hc30 : c ≤ 30) (hD : FD D c n cn) (n' : Nat) (hn' : n' ≤ 13) (s : Int32) (hs : s = 0 ∨ min sz cn < n') (h : Nat) (t : Int32) (now picks cl : Nat → Int32) :
    ∃ D', fLO A cn there ki ta pr nu pu co we r x sz (h + 1) (nI n') t s (nI c) now D picks cl = some (nI c, t, s, nI c, now, D', picks, cl) ∧ ∀ i, i < c → D' i = Fh (fun y => wsum V y cn) D c i := by
  obtain ⟨D', e1, e2⟩ := sortF (we := we) (D := D) (w := fun y => wsum V y cn) (ws1000 hc hcn) hc30 (fun i hi => weightR hc hcn (fun c a b => (hD.1 i hi).2.1 c a (by omega))) hD.2
  refine ⟨D', ?_, e2⟩
  have hA : mK5_find_A56 we t s (nI c) now D picks cl = some (nI c, t, s, nI c, now, D', picks, cl) := by
    unfold mK5_find_A56
    rw [e1, bd1v]
  show mK5_find_B56 (nI cn) (nI A) there ki ta pr nu pu co (nI r) (nI x) (nI sz) (mK5_find_A56 we) _ (nI n') t s (nI c) now D picks cl = _
  unfold mK5_find_B56
  by_cases q1 : nI sz < nI n'
  · rw [if_pos q1, hA]
  · rw [if_neg q1]
    by_cases q2 : nI cn < nI n'
    · rw [if_pos q2, hA]
    · rw [if_neg q2]
      rw [nI_ltI (by omega) (by omega)] at q1 q2
      rcases hs with e | e
      · rw [if_pos e, hA]
      · omega
theorem fC_end {A : Nat} {ob me ki ta pr nu : Nat → Int32} {cn : Nat} {pu co we : Nat → Int32} {r x M fu : Nat} {s t tiso c : Int32} {tiob time fose fosu : Nat → Int32} : fLC A ob me ki ta pr nu cn pu co we r x M (fu + 1) (-1) s t tiso tiob time c fose fosu = some (t, 1, tiso, tiob, time, c, fose, fosu) := by
  show mK0_findSets_B34 (nI A) 1 ob me ki ta pr nu (nI cn) pu co we (nI r) (nI x) (nI M) mK0_findSets_A34 _ (-1) s t tiso tiob time c fose fosu = _
  unfold mK0_findSets_B34
  by_cases q : 4096 ≤ s
  · rw [if_pos q]; rfl
  · rw [if_neg q, if_pos rfl]; rfl
theorem fR_end {A cn : Nat} {there ki ta pr nu pu co we : Nat → Int32} {r x sz h n g : Nat} {m t s c : Int32} {now D picks cl : Nat → Int32} (hm : m = 0 ∨ s = 0) : fLR A cn there ki ta pr nu pu co we r x sz h n (g + 1) m t s c now D picks cl = fLO A cn there ki ta pr nu pu co we r x sz h (nI (n + 1)) t s c now D picks cl := by
  have hA : mK5_find_A87 (nI n) (fLO A cn there ki ta pr nu pu co we r x sz h) t s c now D picks cl = fLO A cn there ki ta pr nu pu co we r x sz h (nI (n + 1)) t s c now D picks cl := by
    unfold mK5_find_A87
    rw [nIs, bd1v]
  show mK5_find_B87 (nI cn) (nI A) there ki ta pr nu pu co (nI r) (nI x) (nI n) (mK5_find_A87 (nI n) (fLO A cn there ki ta pr nu pu co we r x sz h)) _ m t s c now D picks cl = _
  unfold mK5_find_B87
  by_cases q : m = 0
  · rw [if_pos q, hA]
  · rw [if_neg q, if_pos (hm.resolve_left q), hA]
def fOut (cn : Nat) (oc : Option (Int32 × Int32 × Int32 × (Nat → Int32) × (Nat → Int32) × Int32 × (Nat → Int32) × (Nat → Int32))) (orf : Option (Int32 × Int32 × Int32 × Int32 × (Nat → Int32) × (Nat → Int32) × (Nat → Int32) × (Nat → Int32))) : Prop :=
  ∃ (t : Nat) (ls : Bool) (c : Nat) (tiso : Int32) (tiob time fose fosu now D picks cl : Nat → Int32), oc = some (nI t, bI ls, tiso, tiob, time, nI c, fose, fosu) ∧ orf = some (nI c, nI t, bI ls, nI c, now, D, picks, cl) ∧ c ≤ 30 ∧ ∀ i, i < c → fose i = D i ∧ ¬ D i = 0 ∧ below (D i) cn
set_option maxHeartbeats 4000000 in
theorem findSim {ob me there ki ta pr nu ki' ta' pr' nu' pu co we pu' co' we' : Nat → Int32} {th U : Nat → Bool} {C V K T P N : Nat → Nat} {rn cn r x sz A : Nat}
    (h1 : OBr ob th) (h2 : MEr me th) (h3 : BAr there th 864) (r1 : RUr ki ta pr nu K T P N rn) (r2 : RUr ki' ta' pr' nu' K T P N rn) (hrn : rn ≤ 10) (c1 : CHr pu co we U C V cn) (c2 : CHr pu' co' we' U C V cn) (hcn : cn ≤ 12) (hr : r < rn) (hx : x < 12) (hsz : sz ≤ 12) (hA : A ≤ 5000) :
    ∀ (μ : Nat) (S : Int32) (Q : Nat → Nat) (n st t c fu g h : Nat) (tiso : Int32) (tiob time fose fosu now D picks cl : Nat → Int32), 4096 ≤ posS S + μ → SQ S Q n → Inc Q n cn → 1 ≤ n → n ≤ min sz cn → PQ picks Q n → st + 1 ≤ posS S → t ≤ A → c < 30 → FD D c n cn → (∀ i, i < c → fose i = Fh (fun y => wsum V y cn) D c i) → (∀ i, i < c → fosu i = nI (wsum V (fose i) cn)) → μ < fu → μ < g → 13 < h + n → μ ≤ 4999 →
      fOut cn (fLC A ob me ki ta pr nu cn pu co we r x (min sz cn) fu S (nI st) (nI t) tiso tiob time (nI c) fose fosu) (fLR A cn there ki' ta' pr' nu' pu' co' we' r x sz h n g 1 (nI t) 1 (nI c) now D picks cl) := by
  intro μ
  induction μ with
  | zero =>
    intro S Q n st t c fu g h tiso tiob time fose fosu now D picks cl hμ hS
    have := posS_lt hS.1
    omega
  | succ μ ih =>
    intro S Q n st t c fu g h tiso tiob time fose fosu now D picks cl hμ hS hQ hn1 hnM hP hst ht hc hD hfo hsu hfu hg hh h4
    obtain ⟨fu, rfl⟩ : ∃ q, fu = q + 1 := ⟨fu - 1, by omega⟩
    obtain ⟨g, rfl⟩ : ∃ q, g = q + 1 := ⟨g - 1, by omega⟩
    obtain ⟨h, rfl⟩ : ∃ q, h = q + 1 := ⟨h - 1, by omega⟩
    have hn12 : n ≤ 12 := by omega
    have hQ12 : ∀ k, k < n → Q k < 12 := fun k hk => by have := hQ.1 k hk; omega
    have hbel : below S cn := fun i a b => by
      rcases Nat.lt_or_ge i 12 with q | q
      · rw [hS.2 i q]; exact ofQ_f fun k hk e => by have := hQ.1 k hk; omega
      · exact hS.1 i q b
    have hS0 : ¬ S = 0 := fun e => by
      have : bt S (Q 0) = true := by rw [hS.2 _ (hQ12 0 (by omega))]; exact ofQ_t.mpr ⟨0, by omega, rfl⟩
      rw [e, b_0] at this; cases this
    have hSm : ¬ S = -1 := fun e => by
      have := hS.1 12 (by omega) (by omega)
      rw [e, b_m1 12 (by omega)] at this; cases this
    have hcnt : cntB (bt S) 12 = n := cntSQ hcn hS hQ
    have hpos := posS_lt hS.1
    have cont : ∀ (t' c' : Nat) (tiso' : Int32) (tiob' time' fose' fosu' now' D' cl' : Nat → Int32), t' ≤ A → c' < 30 → FD D' c' n cn → (∀ i, i < c' → fose' i = Fh (fun y => wsum V y cn) D' c' i) → (∀ i, i < c' → fosu' i = nI (wsum V (fose' i) cn)) →
        fOut cn (bd1 (mK0_nextSet S (nI cn) (nI (min sz cn))) fun S' => bd1 (some (nI st + 1)) fun s' => fLC A ob me ki ta pr nu cn pu co we r x (min sz cn) fu S' s' (nI t') tiso' tiob' time' (nI c') fose' fosu') (bd2 (mK5_next (nI cn) picks (nI n)) fun m p => fLR A cn there ki' ta' pr' nu' pu' co' we' r x sz (h + 1) n g m (nI t') 1 (nI c') now' D' p cl') := by
      intro t' c' tiso' tiob' time' fose' fosu' now' D' cl' ht' hc' hD' hfo' hsu'
      rcases lastOrMov hQ with hl | ⟨k, hm⟩
      · rw [nextC_last hcn hS hQ hl, nextR_last hcn hn1 hP hQ hl, bd2v]
        obtain ⟨g, rfl⟩ : ∃ q, g = q + 1 := ⟨g - 1, by omega⟩
        rw [fR_end (Or.inl rfl)]
        by_cases e : n = min sz cn
        · obtain ⟨fu, rfl⟩ : ∃ q, fu = q + 1 := ⟨fu - 1, by omega⟩
          rw [if_pos ((nI_leI (by omega) (by omega)).mpr (by omega)), bd1v, bd1v, fC_end]
          obtain ⟨D2, e1, e2⟩ := finR (A := A) (there := there) (ki := ki') (ta := ta') (pr := pr') (nu := nu') (r := r) (x := x) c2 hcn hsz (by omega : c' ≤ 30) hD' (n + 1) (by omega) 1 (Or.inr (by omega)) h (nI t') now' picks cl'
          rw [e1]
          exact ⟨t', true, c', tiso', tiob', time', fose', fosu', now', D2, picks, cl', rfl, rfl, by omega, Fh_out hD' hfo' e2⟩
        · rw [if_neg (fun q => by rw [nI_leI (by omega) (by omega)] at q; omega), bd1v, nIs, bd1v]
          obtain ⟨pi', e1, e2⟩ := firstR picks (n := n + 1) (by omega)
          have e3 : fLO A cn there ki' ta' pr' nu' pu' co' we' r x sz (h + 1) (nI (n + 1)) (nI t') 1 (nI c') now' D' picks cl' = fLR A cn there ki' ta' pr' nu' pu' co' we' r x sz h (n + 1) 5000 1 (nI t') 1 (nI c') now' D' pi' cl' := by
            show mK5_find_B56 (nI cn) (nI A) there ki' ta' pr' nu' pu' co' (nI r) (nI x) (nI sz) (mK5_find_A56 we') _ (nI (n + 1)) (nI t') 1 (nI c') now' D' picks cl' = _
            unfold mK5_find_B56
            rw [if_neg (fun q => by rw [nI_ltI (by omega) (by omega)] at q; omega), if_neg (fun q => by rw [nI_ltI (by omega) (by omega)] at q; omega), if_neg (by decide), e1, bd1v]
          have hs' : SQ (firstQ (n + 1)) id (n + 1) := firstQ_SQ (by omega)
          have hi' : Inc id (n + 1) cn := id_Inc (by omega)
          have hp := posS_size hcn hS hQ hs' hi' (by omega)
          rw [e3]
          exact ih (firstQ (n + 1)) id (n + 1) (st + 1) t' c' fu 5000 h tiso' tiob' time' fose' fosu' now' D' pi' cl' (by omega) hs' hi' (by omega) (by omega) e2 (by omega) ht' hc' (FD_up hD' (by omega)) hfo' hsu' (by omega) (by omega) (by omega) (by omega)
      · obtain ⟨S', e1, e2, e3, e4, e5⟩ := nextC_mov hcn hS hQ hm (nI (min sz cn))
        obtain ⟨pi', e6, e7⟩ := nextR_mov hcn hP hQ hm
        have hp := posS_mov hcn hS hQ hm e2 e3 e4 e5
        rw [e1, e6, bd1v, nIs, bd1v, bd2v]
        exact ih S' (goQ Q k) n (st + 1) t' c' fu g (h + 1) tiso' tiob' time' fose' fosu' now' D' pi' cl' (by omega) e2 (goQ_Inc hQ hm) hn1 hnM e7 (by omega) ht' hc' hD' hfo' hsu' (by omega) (by omega) (by omega) (by omega)
    have stop : ∀ (t' c' : Nat) (now' D' cl' : Nat → Int32), c' ≤ 30 → FD D' c' n cn → ∃ D2 p2, (bd2 (mK5_next (nI cn) picks (nI n)) fun m p => fLR A cn there ki' ta' pr' nu' pu' co' we' r x sz (h + 1) n g m (nI t') 0 (nI c') now' D' p cl') = some (nI c', nI t', 0, nI c', now', D2, p2, cl') ∧ ∀ i, i < c' → D2 i = Fh (fun y => wsum V y cn) D' c' i := by
      intro t' c' now' D' cl' hc' hD'
      have hnx : ∃ m p, mK5_next (nI cn) picks (nI n) = some (m, p) := by
        rcases lastOrMov hQ with hl | ⟨k, hm⟩
        · exact ⟨_, _, nextR_last hcn hn1 hP hQ hl⟩
        · obtain ⟨pi', e6, -⟩ := nextR_mov hcn hP hQ hm
          exact ⟨_, _, e6⟩
      obtain ⟨m, p, e⟩ := hnx
      obtain ⟨g, rfl⟩ : ∃ q, g = q + 1 := ⟨g - 1, by omega⟩
      rw [e, bd2v, fR_end (Or.inr rfl)]
      obtain ⟨D2, e1, e2⟩ := finR (A := A) (there := there) (ki := ki') (ta := ta') (pr := pr') (nu := nu') (r := r) (x := x) c2 hcn hsz hc' hD' (n + 1) (by omega) 0 (Or.inl rfl) h (nI t') now' p cl'
      exact ⟨D2, p, e1, e2⟩
    have hpart : anyB (fun i => decide (fose i &&& S = fose i)) c = anyB (fun i => decide (D i &&& S = D i)) c := by
      rw [anyB_congr (g := fun i => decide (Fh (fun y => wsum V y cn) D c i &&& S = Fh (fun y => wsum V y cn) D c i)) (fun i hi => by rw [hfo i hi])]
      exact Fh_any _ D (fun y => decide (y &&& S = y)) c
    show fOut cn (mK0_findSets_B34 (nI A) 1 ob me ki ta pr nu (nI cn) pu co we (nI r) (nI x) (nI (min sz cn)) mK0_findSets_A34 (fLC A ob me ki ta pr nu cn pu co we r x (min sz cn) fu) S (nI st) (nI t) tiso tiob time (nI c) fose fosu) (mK5_find_B87 (nI cn) (nI A) there ki' ta' pr' nu' pu' co' (nI r) (nI x) (nI n) (mK5_find_A87 (nI n) (fLO A cn there ki' ta' pr' nu' pu' co' we' r x sz (h + 1))) (fLR A cn there ki' ta' pr' nu' pu' co' we' r x sz (h + 1) n g) 1 (nI t) 1 (nI c) now D picks cl)
    unfold mK0_findSets_B34 mK5_find_B87
    rw [if_neg (fun q => by rw [nn4096, nI_leI (by omega) (by omega)] at q; omega), if_neg hSm, partC (by omega), bd1v, hpart, if_neg (by decide : ¬ (1 : Int32) = 0), if_neg (by decide : ¬ (1 : Int32) = 0), setOfR hn12 hP hQ12 hS, bd1v, bd1v, partR (by omega), bd1v]
    generalize anyB (fun i => decide (D i &&& S = D i)) c = b
    cases b with
    | true =>
      rw [if_neg (by decide), if_neg (by decide)]
      exact cont t c tiso tiob time fose fosu now D cl ht hc hD hfo hsu
    | false =>
      rw [if_pos bI_f, if_pos bI_f]
      unfold mK5_look
      by_cases e : t < A
      · obtain ⟨tob', tme', e3, h4, h5⟩ := tryOutT (tiso := tiso) (tiob := tiob) (time := time) h1 h2 c1 hcn S
        obtain ⟨nw, e5, hb⟩ := beginT (now := now) h3 c2 hcn S
        obtain ⟨cl', e6⟩ := isResR hb r2 hrn cl hr hx
        have htA : ¬ nI t = nI A := fun q => by rw [nI_eq (by omega) (by omega)] at q; omega
        rw [if_pos ((nI_ltI (by omega) (by omega)).mpr e), nIs, bd1v, e3, bd3v, failsC h4 h5 r1 hrn hr hx, bd1v, if_neg htA, e5, bd1v, e6, bd2v]
        generalize resB (thS th U C S cn) K T P N r x = bb
        cases bb with
        | true =>
          rw [if_neg (by decide), if_neg (by decide), bd6v]
          unfold mK0_findSets_J122
          rw [if_pos (by rw [nn30]; exact (nI_ltI (by omega) (by omega)).mpr hc)]
          exact cont (t + 1) c 1 tob' tme' fose fosu nw D cl' (by omega) hc hD hfo hsu
        | false =>
          obtain ⟨fosu', e7, h7⟩ := addF (w := fun y => wsum V y cn) (x := S) (ws1000 c1 hcn) hc fose fosu hsu
          have hD' := FD_add hD hS0 hbel hcnt
          have hfo' := Fh_add S hfo
          rw [if_pos bI_f, if_pos bI_f, weightC c1 hcn, bd1v, e7, bd3v, wrtN (by omega) (by decide), bd1v, nIs, bd1v]
          unfold mK0_findSets_J122
          by_cases e8 : c + 1 < 30
          · rw [if_pos (by rw [nn30]; exact (nI_ltI (by omega) (by omega)).mpr e8), if_neg (fun q => by rw [nn30, nI_leI (by omega) (by omega)] at q; omega), bd6v]
            exact cont (t + 1) (c + 1) 1 tob' tme' _ fosu' nw (upd D c S) cl' (by omega) e8 hD' hfo' h7
          · rw [if_neg (fun q => by rw [nn30, nI_ltI (by omega) (by omega)] at q; omega), if_pos (by rw [nn30]; exact (nI_leI (by omega) (by omega)).mpr (by omega)), bd6v]
            obtain ⟨D2, p2, e1, e2⟩ := stop (t + 1) (c + 1) nw (upd D c S) cl' (by omega) hD'
            rw [e1]
            exact ⟨t + 1, false, c + 1, 1, tob', tme', _, fosu', nw, D2, p2, cl', rfl, rfl, by omega, Fh_out hD' hfo' e2⟩
      · rw [if_neg (fun q => e ((nI_ltI (by omega) (by omega)).mp q)), if_pos ((nI_eq (by omega) (by omega)).mpr (by omega)), bd6v]
        obtain ⟨D2, p2, e1, e2⟩ := stop t c now D cl (by omega) hD
        rw [e1]
        exact ⟨t, false, c, tiso, tiob, time, fose, fosu, now, D2, p2, cl, rfl, rfl, by omega, Fh_out hD hfo e2⟩
def LT2 (olt ols tried settled : Int32) : Prop := olt = tried ∧ ols = settled ∧ ∃ b, ols = bI b
set_option maxHeartbeats 2000000 in
theorem p_find {so : Int32} {ob me there : Nat → Int32} {th : Nat → Bool} (h : TR2 so ob me there th) {run rules : Int32} {ki ta pr nu ki' ta' pr' nu' : Nat → Int32} {K T P N : Nat → Nat} {n : Nat} (hr : RU2 run ki ta pr nu rules ki' ta' pr' nu' K T P N n) {chn changes : Int32} {pu co we pu' co' we' : Nat → Int32} {U : Nat → Bool} {C V : Nat → Nat} {cn : Nat} (hc : CH2 chn pu co we changes pu' co' we' U C V cn) {oal mt : Int32} {A : Nat} (ha : AL2 oal mt A) {fon found : Int32} {se sets : Nat → Int32} {k : Nat} (hf : FO2 fon se found sets cn k) {olt ols tried settled : Int32} (hl : LT2 olt ols tried settled) (tso : Int32) (tob tme su now picks cl : Nat → Int32) (v1 v2 v3 : Int32) :
    ∃ q olt' ols' tso' tob' tme' fon' se' su' tried' settled' found' now' sets' picks' cl', mK0_find oal olt ols so ob me tso tob tme run ki ta pr nu chn pu co we fon se su v1 v2 v3 = some (q, olt', ols', tso', tob', tme', fon', se', su') ∧ mK5_find rules changes mt tried settled found there now ki' ta' pr' nu' pu' co' we' sets picks cl v1 v2 v3 = some (q, tried', settled', found', now', sets', picks', cl') ∧ LT2 olt' ols' tried' settled' ∧ ∃ k', FO2 fon' se' found' sets' cn k' := by
  obtain ⟨rfl, h1, h2, h3⟩ := h
  obtain ⟨hn, rfl, rfl, r1, r2⟩ := hr
  obtain ⟨hcn, rfl, rfl, c1, c2⟩ := hc
  obtain ⟨rfl, rfl, hA1, hA⟩ := ha
  unfold mK0_find mK5_find
  rw [nn12]
  rcases isPairR hn v1 v2 with ⟨r, x, hr, hx, rfl, rfl, e1, e2, e3⟩ | ⟨e3, e1 | ⟨e1, e2⟩⟩
  · rw [e1, bd1v, if_neg (by decide : ¬ (1 : Int32) = 0), e2, bd1v, if_neg (by decide : ¬ (1 : Int32) = 0), e3, bd1v, if_neg (by decide : ¬ (1 : Int32) = 0)]
    rcases in1 v3 12 (by decide) with ⟨sz, hz1, hz2, rfl, e4, e5, e6⟩ | ⟨e4, e5 | ⟨e5, e6⟩⟩
    · obtain ⟨nw, e7, hb⟩ := beginT (now := now) h3 c2 hcn 0
      rw [thS_0 cn (by omega)] at hb
      obtain ⟨cl', e8⟩ := isResR hb r2 hn cl hr hx
      rw [if_neg e5, if_pos e6, failsC h1 h2 r1 hn hr hx, bd1v, e4, bd1v, if_neg (by decide : ¬ (1 : Int32) = 0), e7, bd1v, e8, bd2v]
      generalize resB th K T P N r x = bb
      cases bb with
      | false => exact ⟨-2, olt, ols, tso, tob, tme, fon, se, su, tried, settled, found, nw, sets, picks, cl', by rw [if_pos bI_f], by rw [if_pos bI_f], hl, k, hf⟩
      | true =>
        rw [if_neg (by decide), if_neg (by decide), nI_imin (by omega) (by omega)]
        unfold mK0_findSets
        have hS0 : SQ 0 id 0 := ⟨sm_0, fun i _ => by rw [b_0]; rfl⟩
        have hQ0 : Inc id 0 cn := id_Inc (by omega)
        rw [show mK4_forget fon = some 0 from rfl, bd1v, show (0 : Int32) = nI 0 from rfl]
        rw [show mK0_nextSet (nI 0) (nI cn) (nI (min sz cn)) = _ from nextC_last hcn hS0 hQ0 (fun k hk => absurd hk (by omega)) (nI (min sz cn))]
        have fin : ∀ oc orf, fOut cn oc orf → ∃ q olt' ols' tso' tob' tme' fon' se' su' tried' settled' found' now' sets' picks' cl', (bd8 oc fun x7 x8 x9 x10 x11 x12 x13 x14 => some (x12, x7, x8, x9, x10, x11, x12, x13, x14)) = some (q, olt', ols', tso', tob', tme', fon', se', su') ∧ orf = some (q, tried', settled', found', now', sets', picks', cl') ∧ LT2 olt' ols' tried' settled' ∧ ∃ k', FO2 fon' se' found' sets' cn k' := by
          rintro oc orf ⟨t, ls, c, tiso, tiob, time, fose, fosu, now, D, picks, cl, rfl, rfl, hc, hh⟩
          exact ⟨nI c, nI t, bI ls, tiso, tiob, time, nI c, fose, fosu, nI t, bI ls, nI c, now, D, picks, cl, rfl, rfl, ⟨rfl, rfl, ls, rfl⟩, c, hc, rfl, rfl, hh⟩
        refine fin _ _ ?_
        have hFD : FD sets 0 0 cn := ⟨fun i hi => absurd hi (by omega), fun i j _ hj => absurd hj (by omega)⟩
        by_cases e : min sz cn = 0
        · rw [if_pos ((nI_leI (by omega) (by omega)).mpr (by omega)), bd1v]
          obtain ⟨D2, e1, e2⟩ := finR (A := A) (there := there) (ki := ki') (ta := ta') (pr := pr') (nu := nu') (r := r) (x := x) c2 hcn hz2 (by omega : 0 ≤ 30) hFD 1 (by omega) 1 (Or.inr (by omega)) 4999 (nI 0) nw picks cl'
          exact ⟨0, true, 0, tso, tob, tme, se, su, nw, D2, picks, cl', fC_end (fu := 4999), e1, by omega, fun i hi => absurd hi (by omega)⟩
        · rw [if_neg (fun q => by rw [nI_leI (by omega) (by omega)] at q; omega), bd1v]
          obtain ⟨pi', e1, e2⟩ := firstR picks (n := 1) (by omega)
          have e3 : fLO A cn there ki' ta' pr' nu' pu' co' we' r x sz 5000 (nI 1) (nI 0) 1 (nI 0) nw sets picks cl' = fLR A cn there ki' ta' pr' nu' pu' co' we' r x sz 4999 1 5000 1 (nI 0) 1 (nI 0) nw sets pi' cl' := by
            show mK5_find_B56 (nI cn) (nI A) there ki' ta' pr' nu' pu' co' (nI r) (nI x) (nI sz) (mK5_find_A56 we') _ (nI 1) (nI 0) 1 (nI 0) nw sets picks cl' = _
            unfold mK5_find_B56
            rw [if_neg (fun q => by rw [nI_ltI (by omega) (by omega)] at q; omega), if_neg (fun q => by rw [nI_ltI (by omega) (by omega)] at q; omega), if_neg (by decide), e1, bd1v]
          have hs' : SQ (firstQ 1) id 1 := firstQ_SQ (by omega)
          have hi' : Inc id 1 cn := id_Inc (by omega)
          have hp := posS_size hcn hS0 hQ0 hs' hi' (by omega)
          show fOut cn (fLC A ob me ki ta pr nu cn pu co we r x (min sz cn) 5000 (firstQ 1) (nI 0) (nI 0) tso tob tme (nI 0) se su) (fLO A cn there ki' ta' pr' nu' pu' co' we' r x sz 5000 (nI 1) (nI 0) 1 (nI 0) nw sets picks cl')
          rw [e3]
          exact findSim h1 h2 h3 r1 r2 hn c1 c2 hcn hr hx hz2 hA 4096 (firstQ 1) id 1 0 0 0 5000 5000 4999 tso tob tme se su nw sets pi' cl' (by omega) hs' hi' (by omega) (by omega) e2 (by omega) (by omega) (by omega) (FD_up hFD (by omega)) (fun i hi => absurd hi (by omega)) (fun i hi => absurd hi (by omega)) (by omega) (by omega) (by omega) (by omega)
    · exact ⟨-1, olt, ols, tso, tob, tme, fon, se, su, tried, settled, found, now, sets, picks, cl, by rw [if_pos e5], by rw [e4, bd1v, if_pos rfl], hl, k, hf⟩
    · exact ⟨-1, olt, ols, tso, tob, tme, fon, se, su, tried, settled, found, now, sets, picks, cl, by rw [if_neg e5, if_neg e6], by rw [e4, bd1v, if_pos rfl], hl, k, hf⟩
  · exact ⟨-1, olt, ols, tso, tob, tme, fon, se, su, tried, settled, found, now, sets, picks, cl, by rw [e1]; rfl, by rw [e3]; rfl, hl, k, hf⟩
  · exact ⟨-1, olt, ols, tso, tob, tme, fon, se, su, tried, settled, found, now, sets, picks, cl, by rw [e1, bd1v, if_neg (by decide), e2]; rfl, by rw [e3]; rfl, hl, k, hf⟩
