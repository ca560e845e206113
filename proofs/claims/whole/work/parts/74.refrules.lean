/-! own rows: what a rule asks of a node, in the reference -/
set_option maxHeartbeats 2000000 in
/-- one y: how many, and whether all is well so far -/
theorem holdsJ {now ki : Nat → Int32} {th : Nat → Bool} (hn : BAr now th 864) {r k p a x y : Nat} (hr : r < 10) (hk : ki r = nI k) (k6 : k < 6) (hx : x < 12) (hy : y < 12) (a2 : 2 ≤ k → a < 12) (a4 : 4 ≤ k → a < 6) (c : Nat) (al : Bool) (cl : Nat → Int32) (rc : Int32 → Int32 → Int32 → (Nat → Int32) → Option (Int32 × (Nat → Int32))) (is : Bool) (hi : is = th (72 * x + 12 * p + y)) :
    ∃ cl', mK5_holds_J57 now ki (nI r) (nI x) (nI a) (nI c) (bI al) (nI y) cl rc (bI is) (bI is) = rc (nI (c + if is = true then 1 else 0)) (bI (al && okE th k p a x y)) (nI (y + 1)) cl' := by
  have hc : nI c + bI is = nI (c + if is = true then 1 else 0) := by
    cases is
    · show nI c + nI 0 = _; rw [nI_add]; rfl
    · show nI c + nI 1 = _; rw [nI_add]; rfl
  unfold mK5_holds_J57
  rw [hc, bd1v, rdN hr (by decide), bd1v, hk]
  unfold okE
  rw [← hi]
  rcases (show k = 0 ∨ k = 1 ∨ k = 2 ∨ k = 3 ∨ k = 4 ∨ k = 5 by omega) with e | e | e | e | e | e
  · subst e
    refine ⟨cl, ?_⟩
    rw [if_neg (show ¬ nI 0 = 2 by decide), bd1v, if_neg (show ¬ nI 0 = 3 by decide), bd1v, if_neg (show ¬ nI 0 = 4 by decide), bd1v, if_neg (show ¬ nI 0 = 5 by decide), nIs, bd1v]
    simp
  · subst e
    refine ⟨cl, ?_⟩
    rw [if_neg (show ¬ nI 1 = 2 by decide), bd1v, if_neg (show ¬ nI 1 = 3 by decide), bd1v, if_neg (show ¬ nI 1 = 4 by decide), bd1v, if_neg (show ¬ nI 1 = 5 by decide), nIs, bd1v]
    simp
  · subst e
    rw [if_pos (show nI 2 = 2 from rfl)]
    cases al with
    | false => exact ⟨cl, by rw [if_pos bI_f, nIs, bd1v]; rfl⟩
    | true =>
      rw [if_neg (by decide)]
      cases is with
      | false => exact ⟨cl, by rw [if_pos bI_f, nIs, bd1v]; rfl⟩
      | true =>
        obtain ⟨cl', ec⟩ := isOfNow hn cl hy (a2 (by omega))
        refine ⟨cl', ?_⟩
        rw [if_neg (by decide), ec, bd2v, ifbI]
        cases isO th y a with
        | false => rw [if_neg (by decide), nIs, bd1v]; rfl
        | true => rw [if_pos rfl, nIs, bd1v]; rfl
  · subst e
    refine ⟨cl, ?_⟩
    rw [if_neg (show ¬ nI 3 = 2 by decide), bd1v, if_pos (show nI 3 = 3 from rfl)]
    cases al with
    | false => rw [if_pos bI_f, nIs, bd1v]; rfl
    | true =>
      rw [if_neg (by decide)]
      cases is with
      | false => rw [if_pos bI_f, nIs, bd1v]; rfl
      | true =>
        rw [if_neg (by decide)]
        by_cases ey : y = a
        · rw [if_pos (by rw [ey]), nIs, bd1v, decide_eq_true ey]; rfl
        · rw [if_neg (fun q => ey ((nI_eq (by omega) (by have := a2 (by omega); omega)).mp q)), nIs, bd1v, decide_eq_false ey]; rfl
  · subst e
    refine ⟨cl, ?_⟩
    rw [if_neg (show ¬ nI 4 = 2 by decide), bd1v, if_neg (show ¬ nI 4 = 3 by decide), bd1v, if_pos (show nI 4 = 4 from rfl)]
    have ha := a4 (by omega)
    cases al with
    | false => rw [if_pos bI_f, nIs, bd1v]; rfl
    | true =>
      rw [if_neg (by decide), codeT, bd1v, rdN (by omega) (by decide), bd1v, hn _ (by omega)]
      cases is <;> cases th (72 * x + 12 * a + y) <;> first | (rw [if_pos rfl, nIs, bd1v]; rfl) | (rw [if_neg (by decide), nIs, bd1v]; rfl)
  · subst e
    refine ⟨cl, ?_⟩
    rw [if_neg (show ¬ nI 5 = 2 by decide), bd1v, if_neg (show ¬ nI 5 = 3 by decide), bd1v, if_neg (show ¬ nI 5 = 4 by decide), bd1v, if_pos (show nI 5 = 5 from rfl)]
    have ha := a4 (by omega)
    cases al with
    | false => rw [if_pos bI_f, nIs, bd1v]; rfl
    | true =>
      rw [if_neg (by decide)]
      cases is with
      | false => rw [if_pos bI_f, nIs, bd1v]; rfl
      | true =>
        rw [if_neg (by decide), codeT, bd1v, rdN (by omega) (by decide), bd1v, hn _ (by omega)]
        cases th (72 * x + 12 * a + y) <;> first | (rw [if_pos rfl, nIs, bd1v]; rfl) | (rw [if_neg (by decide), nIs, bd1v]; rfl)
set_option maxHeartbeats 2000000 in
theorem holdsR {now ki ta pr nu : Nat → Int32} {th : Nat → Bool} {K T P N : Nat → Nat} {n : Nat} (hb : BAr now th 864) (hr : RUr ki ta pr nu K T P N n) (hn : n ≤ 10) (cl : Nat → Int32) {r x : Nat} (hrn : r < n) (hx : x < 12) : ∃ cl', mK5_holds now ki pr nu cl (nI r) (nI x) = some (bI (hld th (K r) (P r) (N r) x), cl') := by
  obtain ⟨e1, -, e3, e4, k6, -, p6, a12, b2, b4⟩ := hr r hrn
  unfold mK5_holds
  rw [rdN (by omega) (by decide), bd1v, e3, rdN (by omega) (by decide), bd1v, e4]
  refine lpU (S := Int32 × Int32 × (Nat → Int32)) (fun f i st => mK5_holds_L24 now ki (nI r) (nI x) (nI (P r)) (nI (N r)) (mK5_holds_A24 ki (nI r) (nI (N r))) f st.1 st.2.1 (nI i) st.2.2) (fun o => ∃ cl', o = some (bI (hld th (K r) (P r) (N r) x), cl')) 12
    (fun i st => st.1 = nI (cntB (fun y => th (72 * x + 12 * P r + y)) i) ∧ st.2.1 = bI (allB (okE th (K r) (P r) (N r) x) i)) ?_ ?_ 5000 0 (0, 1, cl) (by omega) (by omega) ⟨rfl, rfl⟩
  · rintro f ⟨mn, al, st⟩ ⟨h1, h2⟩
    dsimp only at h1 h2 ⊢
    refine ⟨st, ?_⟩
    show mK5_holds_B24 now ki (nI r) (nI x) (nI (P r)) (nI (N r)) (mK5_holds_A24 ki (nI r) (nI (N r))) _ mn al (nI 12) st = _
    unfold mK5_holds_B24
    rw [if_pos ((le12 (by omega)).mpr (by omega))]
    unfold mK5_holds_A24 hld
    have hcl := cntB_le (fun y => th (72 * x + 12 * P r + y)) 12
    rw [rdN (by omega) (by decide), bd1v, e1, h1, h2]
    rcases (show K r = 0 ∨ K r = 1 ∨ 2 ≤ K r by omega) with e | e | e
    · rw [e, if_pos (show nI 0 = 0 from rfl), if_pos rfl]
      by_cases hq : cntB (fun y => th (72 * x + 12 * P r + y)) 12 < N r
      · rw [if_pos ((nI_ltI (by omega) (by omega)).mpr hq), decide_eq_false (by omega)]; rfl
      · rw [if_neg (fun q => hq ((nI_ltI (by omega) (by omega)).mp q)), decide_eq_true (by omega)]; rfl
    · rw [e, if_neg (show ¬ nI 1 = 0 by decide), bd1v, if_pos (show nI 1 = 1 from rfl), if_neg (show ¬ (1 : Nat) = 0 by decide), if_pos (show (1 : Nat) = 1 from rfl)]
      by_cases hq : N r < cntB (fun y => th (72 * x + 12 * P r + y)) 12
      · rw [if_pos ((nI_ltI (by omega) (by omega)).mpr hq), decide_eq_false (by omega)]; rfl
      · rw [if_neg (fun q => hq ((nI_ltI (by omega) (by omega)).mp q)), decide_eq_true (by omega)]; rfl
    · rw [if_neg (fun q => by have := (nI_eq (by omega) (by omega)).mp (show nI (K r) = nI 0 from q); omega), bd1v, if_neg (fun q => by have := (nI_eq (by omega) (by omega)).mp (show nI (K r) = nI 1 from q); omega), bz_bI, bd1v, if_neg (by omega), if_neg (by omega)]
  · rintro f i ⟨mn, al, st⟩ hi ⟨h1, h2⟩
    dsimp only at h1 h2 ⊢
    right
    obtain ⟨cl', ej⟩ := holdsJ hb (r := r) (p := P r) (by omega) e1 k6 hx hi b2 b4 (cntB (fun y => th (72 * x + 12 * P r + y)) i) (allB (okE th (K r) (P r) (N r) x) i) st (mK5_holds_L24 now ki (nI r) (nI x) (nI (P r)) (nI (N r)) (mK5_holds_A24 ki (nI r) (nI (N r))) f) (th (72 * x + 12 * P r + i)) rfl
    refine ⟨(_, _, cl'), ⟨rfl, rfl⟩, ?_⟩
    show mK5_holds_B24 now ki (nI r) (nI x) (nI (P r)) (nI (N r)) (mK5_holds_A24 ki (nI r) (nI (N r))) (mK5_holds_L24 now ki (nI r) (nI x) (nI (P r)) (nI (N r)) (mK5_holds_A24 ki (nI r) (nI (N r))) f) mn al (nI i) st = _
    unfold mK5_holds_B24
    rw [if_neg (fun q => by rw [le12 (by omega)] at q; omega), codeT, bd1v, rdN (by omega) (by decide), bd1v, hb _ (by omega), h1, h2]
    have e5 : ∀ b : Bool, (if bI b = 0 then mK5_holds_J57 now ki (nI r) (nI x) (nI (N r)) (nI (cntB (fun y => th (72 * x + 12 * P r + y)) i)) (bI (allB (okE th (K r) (P r) (N r) x) i)) (nI i) st (mK5_holds_L24 now ki (nI r) (nI x) (nI (P r)) (nI (N r)) (mK5_holds_A24 ki (nI r) (nI (N r))) f) (bI b) 0 else mK5_holds_J57 now ki (nI r) (nI x) (nI (N r)) (nI (cntB (fun y => th (72 * x + 12 * P r + y)) i)) (bI (allB (okE th (K r) (P r) (N r) x) i)) (nI i) st (mK5_holds_L24 now ki (nI r) (nI x) (nI (P r)) (nI (N r)) (mK5_holds_A24 ki (nI r) (nI (N r))) f) (bI b) 1) = mK5_holds_J57 now ki (nI r) (nI x) (nI (N r)) (nI (cntB (fun y => th (72 * x + 12 * P r + y)) i)) (bI (allB (okE th (K r) (P r) (N r) x) i)) (nI i) st (mK5_holds_L24 now ki (nI r) (nI x) (nI (P r)) (nI (N r)) (mK5_holds_A24 ki (nI r) (nI (N r))) f) (bI b) (bI b) := fun b => by cases b <;> rfl
    rw [e5, ej]
    rfl
theorem isResR {now ki ta pr nu : Nat → Int32} {th : Nat → Bool} {K T P N : Nat → Nat} {n : Nat} (hb : BAr now th 864) (hr : RUr ki ta pr nu K T P N n) (hn : n ≤ 10) (cl : Nat → Int32) {r x : Nat} (hrn : r < n) (hx : x < 12) : ∃ cl', mK5_isResult now ki ta pr nu cl (nI r) (nI x) = some (bI (resB th K T P N r x), cl') := by
  obtain ⟨-, e2, -, -, -, t12, -⟩ := hr r hrn
  unfold mK5_isResult resB
  obtain ⟨c1, h1⟩ := isOfNow hb cl hx t12
  rw [rdN (by omega) (by decide), bd1v, e2, h1, bd2v, ifbI]
  cases isO th x (T r) with
  | false => exact ⟨c1, rfl⟩
  | true =>
    obtain ⟨c2, h2⟩ := holdsR hb hr hn c1 hrn hx
    refine ⟨c2, ?_⟩
    rw [if_pos rfl, h2, bd2v, ifbI]
    cases hld th (K r) (P r) (N r) x <;> rfl
