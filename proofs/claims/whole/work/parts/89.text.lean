/-! own rows: texts: the builder's bytes and the reference's told letters are one row of letters -/
theorem bud_v {a b x y : Nat} (h1 : x ≤ a) (h2 : y ≤ b) : bud a b x y = some () := if_pos ⟨h1, h2⟩
theorem wa3v {A1 A2 A3 : Type} {c s mc ms : Nat} {a1 : A1} {a2 : A2} {a3 : A3} : wa3 c s (some (a1, a2, a3, mc, ms)) = some (a1, a2, a3, c + mc, s + ms) := rfl
theorem shr0 (x : Int32) : x >>> ((0 : Int32) &&& 31) = x := b_ext fun i hi => by
  have h := b_sshr 0 (by omega) x hi
  rw [if_pos (by omega), Nat.zero_add] at h
  exact h
theorem shl0 (x : Int32) : x <<< ((0 : Int32) &&& 31) = x := b_ext fun i hi => by
  have h := b_shl 0 (by omega) x hi
  rw [decide_eq_true (Nat.zero_le i), Bool.true_and, Nat.sub_zero] at h
  exact h
theorem sub_le0 {a b : Nat} (ha : a < 2 ^ 30) (hb : b < 2 ^ 30) : nI a - nI b ≤ 0 ↔ a ≤ b := by
  rw [Int32.le_iff_toInt_le, pk_sub_toInt ha hb, show (0 : Int32).toInt = 0 from rfl]
  omega
abbrev okx (x : Int32) : Prop := fits .byte (.int x) = true ∧ i2c (x &&& 255) = x ∧ vp_nar .char x = x
theorem getD_l {t : List Int32} : ∀ {l : List Int32} {i : Nat}, i < l.length → (l ++ t).getD i 0 = l.getD i 0
  | [], i, h => absurd h (by simp)
  | a :: l, 0, h => rfl
  | a :: l, i + 1, h => by
    show (l ++ t).getD i 0 = l.getD i 0
    exact getD_l (by simpa using h)
theorem getD_r {t : List Int32} {j : Nat} : ∀ {l : List Int32}, (l ++ t).getD (l.length + j) 0 = t.getD j 0
  | [] => by rw [List.nil_append, List.length_nil, Nat.zero_add]
  | a :: l => by
    rw [List.length_cons, show l.length + 1 + j = (l.length + j) + 1 by omega]
    show (l ++ t).getD (l.length + j) 0 = t.getD j 0
    exact getD_r
def Tx (f : Nat → Int32) (l : List Int32) : Prop := ∀ i, i < l.length → f i = l.getD i 0
def Sb (l : List Int32) (sn : Nat) (sb : Nat → Int32) : Prop := l.length ≤ sn ∧ 16 ≤ sn ∧ sn ≤ 400 ∧ Tx sb l ∧ ∀ i, i < sn → okx (sb i)
def Gr (sn sn' dc ds : Nat) : Prop := (sn + 2) * 2 ^ dc ≤ sn' + 2 ∧ ds ≤ 400 * dc
theorem Gr_0 {sn : Nat} : Gr sn sn 0 0 := ⟨by rw [Nat.pow_zero]; omega, by omega⟩
theorem Gr_c {sn sn1 sn2 c1 s1 c2 s2 : Nat} (h1 : Gr sn sn1 c1 s1) (h2 : Gr sn1 sn2 c2 s2) : Gr sn sn2 (c1 + c2) (s1 + s2) := by
  constructor
  · rw [Nat.pow_add, ← Nat.mul_assoc]
    exact Nat.le_trans (Nat.mul_le_mul_right _ h1.1) h2.1
  · have := h1.2
    have := h2.2
    omega
theorem Gr_b {sn0 sn kc ks : Nat} (h0 : 16 ≤ sn0) (h1 : sn ≤ 400) (h : Gr sn0 sn kc ks) : kc ≤ 8 ∧ ks ≤ 2000 := by
  have hk : kc ≤ 4 := by
    rcases Nat.lt_or_ge 4 kc with q | q
    · have a1 : 2 ^ 5 ≤ 2 ^ kc := Nat.pow_le_pow_right (by omega) q
      have a2 : 18 * 2 ^ 5 ≤ (sn0 + 2) * 2 ^ kc := Nat.mul_le_mul (by omega) a1
      have := h.1
      omega
    · exact q
  have := h.2
  omega
set_option maxHeartbeats 1000000 in
theorem ensC {l : List Int32} {sn : Nat} {sb : Nat → Int32} (h : Sb l sn sb) {v : Nat} (hv : v ≤ 200) : ∃ sn' sb' dc ds, mJ1_ens 0 sn sb (nI v) = some (sn', sb', dc, ds) ∧ Sb l sn' sb' ∧ v ≤ sn' ∧ Gr sn sn' dc ds := by
  obtain ⟨h1, h2, h3, h4, h5⟩ := h
  unfold mJ1_ens
  rw [shr0, bd1v]
  by_cases e : v ≤ sn
  · rw [if_pos ((sub_le0 (by omega) (by omega)).mpr e)]
    exact ⟨sn, sb, 0, 0, rfl, ⟨h1, h2, h3, h4, h5⟩, e, Gr_0⟩
  · obtain ⟨cap, hcap⟩ : ∃ cap, cap = sn + (if v - sn < sn + 2 then sn + 2 else v - sn) := ⟨_, rfl⟩
    have hc : 2 * sn + 2 ≤ cap ∧ cap ≤ 400 ∧ v ≤ cap := by
      rw [hcap]
      split <;> omega
    have hnew : mJ1_newCapacity 0 sn (nI v) = some (nI cap) := by
      unfold mJ1_newCapacity mJ7_newLength
      rw [bd1v, shl0, bd1v, nI_sub (by omega), bd1v, shl0, nn2, nI_add]
      have hmax : imax (nI (v - sn)) (nI (sn + 2)) = nI (if v - sn < sn + 2 then sn + 2 else v - sn) := by
        unfold imax
        by_cases q : v - sn < sn + 2
        · rw [if_pos ((nI_ltI (by omega) (by omega)).mpr q), if_pos q]
        · rw [if_neg (fun w => q ((nI_ltI (by omega) (by omega)).mp w)), if_neg q]
      rw [hmax, nI_add, ← hcap, bd1v, if_neg (nI_nle (by omega) (by omega)), if_neg (fun q => by rw [show (2147483639 : Int32) = nI 2147483639 from rfl, nI_ltI (by omega) (by omega)] at q; omega), bd1v, if_neg (fun q => by rw [show (2147483647 : Int32) = nI 2147483647 from rfl, nI_eq (by omega) (by omega)] at q; omega), shr0]
    have hcpy : mJ6_copyOf sn sb (nI cap) = some (cap, va_cpy sb (fun _ => 0) 0 0 sn) := by
      unfold mJ6_copyOf
      rw [if_neg (fun q => by rw [nI_eq (by omega) (by omega)] at q; omega), if_neg (nI_pos (by omega)), nI_clamp (by omega), if_pos (by omega), nI_imin (by omega) (by omega), Nat.min_eq_left (by omega)]
      unfold cpyt
      rw [nI_clamp (by omega), show (0 : Int32).toNatClampNeg = 0 from rfl, if_pos ⟨by decide, by decide, nI_pos (by omega), by omega, by omega, List.all_eq_true.mpr fun i hi => by rw [Nat.zero_add]; exact (h5 i (List.mem_range.mp hi)).1⟩, bd1v]
    rw [if_neg (fun q => e ((sub_le0 (by omega) (by omega)).mp q)), hnew, bd1v, shl0, hcpy, bd2v]
    refine ⟨cap, _, 1, cap, rfl, ⟨by omega, by omega, by omega, fun i hi => ?_, fun i hi => ?_⟩, hc.2.2, by omega, by omega⟩
    · rw [pk_cpy_in (by omega) (by omega), Nat.zero_add, Nat.sub_zero]
      exact h4 i hi
    · by_cases q : i < sn
      · rw [pk_cpy_in (by omega) (by omega), Nat.zero_add, Nat.sub_zero]
        exact h5 i q
      · rw [pk_cpy_out (by omega)]
        exact (by decide : okx 0)
theorem Sb_push {l : List Int32} {sn : Nat} {sb : Nat → Int32} (h : Sb l sn sb) (hl : l.length < sn) {x : Int32} (hx : okx x) : Sb (l ++ [x]) sn (upd sb l.length x) := by
  obtain ⟨h1, h2, h3, h4, h5⟩ := h
  refine ⟨by rw [List.length_append]; exact hl, h2, h3, fun i hi => ?_, fun i hi => ?_⟩
  · rw [List.length_append] at hi
    have hi : i < l.length + 1 := hi
    by_cases e : i = l.length
    · subst e
      rw [upd_s]
      have := getD_r (t := [x]) (j := 0) (l := l)
      rw [Nat.add_zero] at this
      rw [this]
      rfl
    · rw [upd_n e, getD_l (by omega)]
      exact h4 i (by omega)
  · by_cases e : i = l.length
    · subst e; rw [upd_s]; exact hx
    · rw [upd_n e]; exact h5 i hi
theorem len1 {l : List Int32} {x : Int32} : (l ++ [x]).length = l.length + 1 := by rw [List.length_append]; rfl
theorem appC {l : List Int32} {sn : Nat} {sb : Nat → Int32} (h : Sb l sn sb) (hl : l.length + 1 ≤ 200) {x : Int32} (hx : okx x) (h255 : ¬ 255 < x) (hn : vp_nar .byte (i2b x) = x) : ∃ sn' sb' dc ds, mK6_append_CLStringBuilder 0 (nI l.length) sn sb x = some (nI (l ++ [x]).length, sn', sb', dc, ds) ∧ Sb (l ++ [x]) sn' sb' ∧ Gr sn sn' dc ds := by
  obtain ⟨sn', sb', dc, ds, e1, h1, h2, h3⟩ := ensC h hl
  have := h1.2.2.1
  refine ⟨sn', _, dc, ds, ?_, Sb_push h1 h2 hx, h3⟩
  unfold mK6_append_CLStringBuilder mJ1_append_CLAbstractStringBuilder mJ1_isLatin1 mJ4_canEncode
  rw [nIs, e1, bd4v, if_neg (by decide : ¬ (1 : Int32) = 0), if_pos rfl, bd1v, if_neg (by decide : ¬ (1 : Int32) = 0), if_neg h255, bd1v, if_neg (by decide : ¬ (1 : Int32) = 0), bd1v, hn, wrtN h2 (by omega), bd1v, len1]
  rfl
set_option maxHeartbeats 1000000 in
theorem appS {l : List Int32} {sn : Nat} {sb : Nat → Int32} (h : Sb l sn sb) (t : List Int32) (hl : l.length + t.length ≤ 200) {xf : Nat → Int32} (hxf : ∀ j, j < t.length → xf j = t.getD j 0) (hx : ∀ j, j < t.length → okx (t.getD j 0)) : ∃ sn' sb' dc ds, mK6_append_LStringLStringBuilder 0 (nI l.length) sn sb t.length xf = some (nI (l ++ t).length, sn', sb', dc, ds) ∧ Sb (l ++ t) sn' sb' ∧ Gr sn sn' dc ds := by
  obtain ⟨sn', sb', dc, ds, e1, h1, h2, h3⟩ := ensC h hl
  obtain ⟨a1, a2, a3, a4, a5⟩ := h1
  refine ⟨sn', va_cpy xf sb' 0 l.length t.length, dc, ds, ?_, ⟨by rw [List.length_append]; exact h2, a2, a3, fun i hi => ?_, fun i hi => ?_⟩, h3⟩
  · unfold mK6_append_LStringLStringBuilder mJ1_append_LStringLAbstractStringBuilder mJ3_length mJ1_putStringAt mJ1_inflateIfNeededFor mJ3_getBytes mJ3_coder
    rw [if_neg (by decide : ¬ (1 : Int32) = 0), bd1v, shr0, bd1v, nI_add, e1, bd4v, if_neg (by decide : ¬ (1 : Int32) = 0), bd1v, if_pos rfl, bd0v, bd1v, if_pos rfl, shl0]
    have hcp : cpyt xf t.length sb' sn' 0 (nI l.length) (nI t.length) = some (va_cpy xf sb' 0 l.length t.length) := by
      unfold cpyt
      rw [nI_clamp (by omega), nI_clamp (by omega), show (0 : Int32).toNatClampNeg = 0 from rfl, if_pos ⟨by decide, nI_pos (by omega), nI_pos (by omega), by omega, by omega, List.all_eq_true.mpr fun i hi => by rw [Nat.zero_add, hxf i (List.mem_range.mp hi)]; exact (hx i (List.mem_range.mp hi)).1⟩]
    rw [hcp, bd1v, bd1v, bd1v, List.length_append]
    rfl
  · rw [List.length_append] at hi
    by_cases e : i < l.length
    · rw [pk_cpy_out (Or.inl e), getD_l e]
      exact a4 i e
    · rw [pk_cpy_in (by omega) (by omega), Nat.zero_add, hxf _ (by omega)]
      have := getD_r (t := t) (j := i - l.length) (l := l)
      rw [show l.length + (i - l.length) = i by omega] at this
      exact this.symm
  · by_cases e : l.length ≤ i ∧ i < l.length + t.length
    · rw [pk_cpy_in e.1 e.2, Nat.zero_add, hxf _ (by omega)]
      exact hx _ (by omega)
    · rw [pk_cpy_out (by omega)]
      exact a5 i hi
def digs (n : Nat) : List Int32 := if n ≤ 9 then [nI (48 + n)] else [nI (48 + n / 10), nI (48 + n % 10)]
theorem sizeD : ∀ n, n < 12 → mJ2_stringSize (nI n) = some (nI (digs n).length) := by decide +kernel
theorem digs_ok : ∀ n, n < 12 → okx (nI (48 + n % 10)) ∧ okx (nI (48 + n / 10)) ∧ (-100 : Int32) < -nI n ∧ rd dgO 100 (- -nI n) = some (nI (48 + n % 10)) ∧ rd dgT 100 (- -nI n) = some (nI (48 + n / 10)) ∧ vp_nar .byte (nI (48 + n % 10)) = nI (48 + n % 10) ∧ vp_nar .byte (nI (48 + n / 10)) = nI (48 + n / 10) ∧ ((-9 : Int32) ≤ -nI n ↔ n ≤ 9) ∧ (0 : Int32) ≤ nI n ∧ (digs n).length ≤ 2 := by decide +kernel
set_option maxHeartbeats 1000000 in
theorem appI {l : List Int32} {sn : Nat} {sb : Nat → Int32} (h : Sb l sn sb) (hl : l.length + 2 ≤ 200) {n : Nat} (hn : n < 12) : ∃ sn' sb' dc ds, mK6_append_ILStringBuilder 0 (nI l.length) sn sb (nI n) = some (nI (l ++ digs n).length, sn', sb', dc, ds) ∧ Sb (l ++ digs n) sn' sb' ∧ Gr sn sn' dc ds := by
  obtain ⟨o1, o2, q1, q2, q3, q4, q5, q6, q7, q8⟩ := digs_ok n hn
  obtain ⟨sn', sb', dc, ds, e1, h1, h2, h3⟩ := ensC h (v := l.length + (digs n).length) (by omega)
  have h400 := h1.2.2.1
  have hgo : ∃ sb2, mJ2_getChars sn' sb' (nI n) (nI (l.length + (digs n).length)) = some (nI l.length, sb2) ∧ Sb (l ++ digs n) sn' sb2 := by
    unfold mJ2_getChars
    rw [if_pos q7]
    unfold mJ2_getChars_J12
    rw [if_pos rfl, bd1v]
    unfold mJ2_getChars_J22
    have hB : mJ2_getChars_L22 sn' (mJ2_getChars_A22 sn' 0) 5000 (-nI n) (nI (l.length + (digs n).length)) sb' = mJ2_getChars_A22 sn' 0 (-nI n) (nI (l.length + (digs n).length)) sb' := by
      show mJ2_getChars_B22 sn' (mJ2_getChars_A22 sn' 0) _ (-nI n) (nI (l.length + (digs n).length)) sb' = _
      unfold mJ2_getChars_B22
      rw [if_pos q1]
    rw [hB]
    unfold mJ2_getChars_A22
    by_cases e : n ≤ 9
    · have hd : digs n = [nI (48 + n)] := if_pos e
      have hm : n % 10 = n := by omega
      rw [hm] at q2 q4 o1
      rw [hd] at h2 ⊢
      have h2 : l.length + 1 ≤ sn' := h2
      refine ⟨_, ?_, Sb_push h1 h2 o1⟩
      rw [show l.length + [nI (48 + n)].length = l.length + 1 from rfl, pk_m1, bd1v, q2, bd1v, q4, wrtN h2 (by omega), bd1v, if_pos (q6.mpr e), if_pos rfl]
    · have hd : digs n = [nI (48 + n / 10), nI (48 + n % 10)] := if_neg e
      rw [hd] at h2 ⊢
      have h2 : l.length + 2 ≤ sn' := h2
      refine ⟨upd (upd sb' (l.length + 1) (nI (48 + n % 10))) l.length (nI (48 + n / 10)), ?_, ?_⟩
      · rw [show l.length + [nI (48 + n / 10), nI (48 + n % 10)].length = l.length + 1 + 1 from rfl, pk_m1, bd1v, q2, bd1v, q4, wrtN (by omega) (by omega), bd1v, if_neg (fun w => e (q6.mp w)), pk_m1, bd1v, q3, bd1v, q5, wrtN (by omega) (by omega), bd1v, if_pos rfl]
      · have hp := Sb_push (Sb_push h1 (by omega) o2) (by rw [len1]; omega) o1
        rw [len1, List.append_assoc] at hp
        have hs : upd (upd sb' l.length (nI (48 + n / 10))) (l.length + 1) (nI (48 + n % 10)) = upd (upd sb' (l.length + 1) (nI (48 + n % 10))) l.length (nI (48 + n / 10)) := by
          funext j
          by_cases a : j = l.length
          · subst a; rw [upd_n (by omega), upd_s, upd_s]
          · by_cases b : j = l.length + 1
            · subst b; rw [upd_s, upd_n a, upd_s]
            · rw [upd_n b, upd_n a, upd_n a, upd_n b]
        rw [hs] at hp
        exact hp
  obtain ⟨sb2, e2, h4⟩ := hgo
  refine ⟨sn', sb2, dc, ds, ?_, h4, h3⟩
  unfold mK6_append_ILStringBuilder mJ1_append_ILAbstractStringBuilder mJ1_isLatin1
  rw [sizeD n hn, bd1v, nI_add, bd1v, e1, bd4v, if_neg (by decide : ¬ (1 : Int32) = 0), if_pos rfl, bd1v, if_neg (by decide : ¬ (1 : Int32) = 0), e2, bd2v, List.length_append]
  rfl
/-- what is told of one change -/
def wordL (u : Bool) : List Int32 := if u = true then [112, 117, 116, 32] else [116, 97, 107, 101, 32]
def tellL (u : Bool) (C : Nat) : List Int32 := ((((wordL u ++ digs (C / 72)) ++ [32]) ++ digs (C / 12 % 6)) ++ [32]) ++ digs (C % 12)
theorem div72 {k : Nat} (hk : k < 2 ^ 31) : nI k / 72 = nI (k / 72) := by rw [nn72]; exact pk_div (by omega) (by omega) (by omega)
theorem rem6 {k : Nat} (hk : k < 2 ^ 31) : nI k - nI k / 6 * 6 = nI (k % 6) := by rw [nn6]; exact pk_rem (by omega) (by omega) (by omega)
theorem digs_len (n : Nat) : (digs n).length ≤ 2 := by unfold digs; split <;> simp
theorem wordL_len (u : Bool) : (wordL u).length ≤ 5 := by cases u <;> decide
theorem tellL_len (u : Bool) (C : Nat) : (tellL u C).length ≤ 13 := by
  have := digs_len (C / 72)
  have := digs_len (C / 12 % 6)
  have := digs_len (C % 12)
  have := wordL_len u
  unfold tellL
  simp only [List.length_append, List.length_cons, List.length_nil]
  omega
set_option maxHeartbeats 2000000 in
theorem tellC {pu co we : Nat → Int32} {U : Nat → Bool} {C V : Nat → Nat} {cn : Nat} (hc : CHr pu co we U C V cn) (hcn : cn ≤ 12) {c : Nat} (hcl : c < cn) {l : List Int32} {sn : Nat} {sb : Nat → Int32} (h : Sb l sn sb) (hl : l.length ≤ 180) : ∃ sn' sb' dc ds, mK3_tell pu co 0 (nI l.length) sn sb (nI c) = some (nI (l ++ tellL (U c) (C c)).length, sn', sb', dc, ds) ∧ Sb (l ++ tellL (U c) (C c)) sn' sb' ∧ Gr sn sn' dc ds := by
  obtain ⟨hpu, hco, -, hC, -, -⟩ := hc c hcl
  have hd1 := digs_len (C c / 72)
  have hd2 := digs_len (C c / 12 % 6)
  have hd3 := digs_len (C c % 12)
  have hw := wordL_len (U c)
  have hword : ∃ sn' sb' dc ds, Sb (l ++ wordL (U c)) sn' sb' ∧ Gr sn sn' dc ds ∧ ∀ (K : Int32 → Nat → (Nat → Int32) → Nat → Nat → Option (Int32 × Nat × (Nat → Int32) × Nat × Nat)), (if bI (U c) = 0 then bd5 (mK6_append_LStringLStringBuilder 0 (nI l.length) sn sb 5 ktx2) K else bd5 (mK6_append_LStringLStringBuilder 0 (nI l.length) sn sb 4 ktx1) K) = K (nI (l ++ wordL (U c)).length) sn' sb' dc ds := by
    cases U c with
    | false =>
      obtain ⟨sn', sb', dc, ds, e1, h1, h2⟩ := appS h [116, 97, 107, 101, 32] (by show l.length + 5 ≤ 200; omega) (xf := ktx2) (fun j _ => rfl) ((by decide : ∀ j, j < 5 → okx (([116, 97, 107, 101, 32] : List Int32).getD j 0)))
      exact ⟨sn', sb', dc, ds, h1, h2, fun K => by rw [if_pos bI_f, show mK6_append_LStringLStringBuilder 0 (nI l.length) sn sb 5 ktx2 = _ from e1, bd5v]; rfl⟩
    | true =>
      obtain ⟨sn', sb', dc, ds, e1, h1, h2⟩ := appS h [112, 117, 116, 32] (by show l.length + 4 ≤ 200; omega) (xf := ktx1) (fun j _ => rfl) ((by decide : ∀ j, j < 4 → okx (([112, 117, 116, 32] : List Int32).getD j 0)))
      exact ⟨sn', sb', dc, ds, h1, h2, fun K => by rw [if_neg (by decide), show mK6_append_LStringLStringBuilder 0 (nI l.length) sn sb 4 ktx1 = _ from e1, bd5v]; rfl⟩
  obtain ⟨n1, b1, c1, s1, h1, g1, e1⟩ := hword
  have hlen1 : (l ++ wordL (U c)).length ≤ 185 := by rw [List.length_append]; omega
  obtain ⟨n2, b2, c2, s2, e2, h2, g2⟩ := appI h1 (by omega) (n := C c / 72) (by omega)
  have hlen2 : ((l ++ wordL (U c)) ++ digs (C c / 72)).length ≤ 187 := by rw [List.length_append]; omega
  obtain ⟨n3, b3, c3, s3, e3, h3, g3⟩ := appC h2 (by omega) (x := 32) (by decide) (by decide) (by decide)
  have hlen3 : (((l ++ wordL (U c)) ++ digs (C c / 72)) ++ [32]).length ≤ 188 := by rw [len1]; omega
  obtain ⟨n4, b4, c4, s4, e4, h4, g4⟩ := appI h3 (by omega) (n := C c / 12 % 6) (by omega)
  have hlen4 : ((((l ++ wordL (U c)) ++ digs (C c / 72)) ++ [32]) ++ digs (C c / 12 % 6)).length ≤ 190 := by rw [List.length_append]; omega
  obtain ⟨n5, b5, c5, s5, e5, h5, g5⟩ := appC h4 (by omega) (x := 32) (by decide) (by decide) (by decide)
  have hlen5 : (((((l ++ wordL (U c)) ++ digs (C c / 72)) ++ [32]) ++ digs (C c / 12 % 6)) ++ [32]).length ≤ 191 := by rw [len1]; omega
  obtain ⟨n6, b6, c6, s6, e6, h6, g6⟩ := appI h5 (by omega) (n := C c % 12) (by omega)
  have hassoc : (((((l ++ wordL (U c)) ++ digs (C c / 72)) ++ [32]) ++ digs (C c / 12 % 6)) ++ [32]) ++ digs (C c % 12) = l ++ tellL (U c) (C c) := by
    unfold tellL
    simp only [List.append_assoc]
  rw [hassoc] at e6 h6
  refine ⟨n6, b6, _, _, ?_, h6, Gr_c g1 (Gr_c g2 (Gr_c g3 (Gr_c g4 (Gr_c g5 (Gr_c g6 Gr_0)))))⟩
  unfold mK3_tell
  rw [rdN (by omega) (by decide), bd1v, hpu, rdN (by omega) (by decide), hco]
  simp only [bd1v]
  rw [div72 (by omega), rem12 (by omega), div12 (by omega), rem6 (by omega)]
  rw [e1, e2, bd5v, e3, bd5v, e4, bd5v, e5, bd5v, e6, bd5v]
  rfl
/-! the reference's telling -/
theorem tellR1 {l : List Int32} {told : Nat → Int32} (h : Tx told l) (hl : l.length < 400) (x : Int32) : ∃ told', mK5_tell (nI l.length) told x = some (nI (l ++ [x]).length, told') ∧ Tx told' (l ++ [x]) := by
  refine ⟨upd told l.length x, ?_, fun i hi => ?_⟩
  · unfold mK5_tell
    rw [wrtN hl (by decide), bd1v, nIs, bd1v, len1]
  · rw [len1] at hi
    by_cases e : i = l.length
    · subst e
      rw [upd_s]
      have := getD_r (t := [x]) (j := 0) (l := l)
      rw [Nat.add_zero] at this
      rw [this]
      rfl
    · rw [upd_n e, getD_l (by omega)]
      exact h i (by omega)
theorem numR : ∀ n, n < 12 → ((nI n ≤ 9) ↔ n ≤ 9) ∧ 48 + (nI n - nI n / 10 * 10) = nI (48 + n % 10) ∧ 48 + (nI n / 10) = nI (48 + n / 10) := by decide +kernel
theorem tellN {l : List Int32} {told : Nat → Int32} (h : Tx told l) (hl : l.length + 3 ≤ 400) {n : Nat} (hn : n < 12) : ∃ told', mK5_tellNumber (nI l.length) told (nI n) = some (nI ((l ++ [32]) ++ digs n).length, told') ∧ Tx told' ((l ++ [32]) ++ digs n) := by
  obtain ⟨q1, q2, q3⟩ := numR n hn
  obtain ⟨t1, e1, h1⟩ := tellR1 h (by omega) 32
  unfold mK5_tellNumber
  rw [e1, bd2v, q2, q3]
  by_cases e : n ≤ 9
  · have hd : digs n = [nI (48 + n % 10)] := by
      have : digs n = [nI (48 + n)] := if_pos e
      rw [this, show n % 10 = n by omega]
    obtain ⟨t2, e2, h2⟩ := tellR1 h1 (by rw [len1]; omega) (nI (48 + n % 10))
    rw [if_pos (q1.mpr e), e2, bd2v, hd]
    exact ⟨t2, rfl, h2⟩
  · have hd : digs n = [nI (48 + n / 10)] ++ [nI (48 + n % 10)] := if_neg e
    obtain ⟨t2, e2, h2⟩ := tellR1 h1 (by rw [len1]; omega) (nI (48 + n / 10))
    obtain ⟨t3, e3, h3⟩ := tellR1 h2 (by rw [len1, len1]; omega) (nI (48 + n % 10))
    rw [if_neg (fun w => e (q1.mp w)), e2, bd2v, e3, bd2v, hd, ← List.append_assoc]
    exact ⟨t3, rfl, h3⟩
set_option maxHeartbeats 2000000 in
theorem tellRw {pu co we : Nat → Int32} {U : Nat → Bool} {C V : Nat → Nat} {cn : Nat} (hc : CHr pu co we U C V cn) (hcn : cn ≤ 12) {c : Nat} (hcl : c < cn) {l : List Int32} {told : Nat → Int32} (h : Tx told l) (hl : l.length ≤ 180) (rc : Int32 → Int32 → (Nat → Int32) → Option (Int32 × Int32 × (Nat → Int32))) : ∃ told', mK5_sentence_J57 pu co (nI c) rc (nI l.length) told = rc (nI (c + 1)) (nI (l ++ tellL (U c) (C c)).length) told' ∧ Tx told' (l ++ tellL (U c) (C c)) := by
  obtain ⟨hpu, hco, -, hC, -, -⟩ := hc c hcl
  have hd1 := digs_len (C c / 72)
  have hd2 := digs_len (C c / 12 % 6)
  have hJ : ∀ (m : List Int32) (td : Nat → Int32), Tx td m → m.length ≤ 190 → ∃ td', mK5_sentence_J111 co (nI c) rc (nI m.length) td = rc (nI (c + 1)) (nI ((((((m ++ [32]) ++ digs (C c / 72)) ++ [32]) ++ digs (C c / 12 % 6)) ++ [32]) ++ digs (C c % 12)).length) td' ∧ Tx td' ((((((m ++ [32]) ++ digs (C c / 72)) ++ [32]) ++ digs (C c / 12 % 6)) ++ [32]) ++ digs (C c % 12)) := by
    intro m td hm hml
    obtain ⟨t1, e1, h1⟩ := tellN hm (by omega) (n := C c / 72) (by omega)
    have hl1 : ((m ++ [32]) ++ digs (C c / 72)).length ≤ 193 := by rw [List.length_append, len1]; omega
    obtain ⟨t2, e2, h2⟩ := tellN h1 (by omega) (n := C c / 12 % 6) (by omega)
    have hl2 : ((((m ++ [32]) ++ digs (C c / 72)) ++ [32]) ++ digs (C c / 12 % 6)).length ≤ 196 := by rw [List.length_append, len1]; omega
    obtain ⟨t3, e3, h3⟩ := tellN h2 (by omega) (n := C c % 12) (by omega)
    refine ⟨t3, ?_, h3⟩
    unfold mK5_sentence_J111
    rw [rdN (by omega) (by decide), hco]
    simp only [bd1v]
    rw [div72 (by omega), rem12 (by omega), div12 (by omega), rem6 (by omega), nIs, e1, bd2v, e2, bd2v, e3, bd2v]
  have hfin : ∀ w : List Int32, wordL (U c) = w ++ [32] → (((((((l ++ w) ++ [32]) ++ digs (C c / 72)) ++ [32]) ++ digs (C c / 12 % 6)) ++ [32]) ++ digs (C c % 12)) = l ++ tellL (U c) (C c) := by
    intro w hw
    unfold tellL
    rw [hw]
    simp only [List.append_assoc]
  unfold mK5_sentence_J57
  rw [rdN (by omega) (by decide), bd1v, hpu]
  cases hu : U c with
  | false =>
    have hw := hfin [116, 97, 107, 101] (by rw [hu]; rfl)
    rw [hu] at hw
    obtain ⟨t1, e1, h1⟩ := tellR1 h (by omega) 116
    obtain ⟨t2, e2, h2⟩ := tellR1 h1 (by simp only [len1]; omega) 97
    obtain ⟨t3, e3, h3⟩ := tellR1 h2 (by simp only [len1]; omega) 107
    obtain ⟨t4, e4, h4⟩ := tellR1 h3 (by simp only [len1]; omega) 101
    have hl4 : (l ++ [116] ++ [97] ++ [107] ++ [101]) = l ++ [116, 97, 107, 101] := by simp only [List.append_assoc, List.cons_append, List.nil_append]
    rw [hl4] at e4 h4
    obtain ⟨t5, e5, h5⟩ := hJ _ t4 h4 (by rw [List.length_append]; show l.length + 4 ≤ 190; omega)
    rw [hw] at e5 h5
    refine ⟨t5, ?_, h5⟩
    rw [if_pos bI_f, e1, bd2v, e2, bd2v, e3, bd2v, e4, bd2v, e5]
  | true =>
    have hw := hfin [112, 117, 116] (by rw [hu]; rfl)
    rw [hu] at hw
    obtain ⟨t1, e1, h1⟩ := tellR1 h (by omega) 112
    obtain ⟨t2, e2, h2⟩ := tellR1 h1 (by simp only [len1]; omega) 117
    obtain ⟨t3, e3, h3⟩ := tellR1 h2 (by simp only [len1]; omega) 116
    have hl4 : (l ++ [112] ++ [117] ++ [116]) = l ++ [112, 117, 116] := by simp only [List.append_assoc, List.cons_append, List.nil_append]
    rw [hl4] at e3 h3
    obtain ⟨t5, e5, h5⟩ := hJ _ t3 h3 (by rw [List.length_append]; show l.length + 3 ≤ 190; omega)
    rw [hw] at e5 h5
    refine ⟨t5, ?_, h5⟩
    rw [if_neg (by decide), e1, bd2v, e2, bd2v, e3, bd2v, e5]
/-- the sentence's letters before its last -/
def sayL (U : Nat → Bool) (C : Nat → Nat) (S : Int32) : Nat → List Int32
  | 0 => []
  | n + 1 => if bt S n = true then (if (sayL U C S n).length = 0 then sayL U C S n else sayL U C S n ++ [44, 32]) ++ tellL (U n) (C n) else sayL U C S n
theorem sayL_len {U : Nat → Bool} {C : Nat → Nat} {S : Int32} : ∀ {n : Nat}, (sayL U C S n).length ≤ 15 * n
  | 0 => Nat.le_refl _
  | n + 1 => by
    have ih := sayL_len (U := U) (C := C) (S := S) (n := n)
    have ht := tellL_len (U n) (C n)
    rw [sayL]
    by_cases e : bt S n = true
    · rw [if_pos e, List.length_append]
      by_cases e2 : (sayL U C S n).length = 0
      · rw [if_pos e2]; omega
      · rw [if_neg e2, List.length_append]
        show (sayL U C S n).length + 2 + _ ≤ _
        omega
    · rw [if_neg e]; omega
theorem sayL_ext {U : Nat → Bool} {C : Nat → Nat} {S : Int32} {n : Nat} : ∀ {k : Nat}, (∀ c, n ≤ c → c < n + k → bt S c = false) → sayL U C S (n + k) = sayL U C S n
  | 0, _ => rfl
  | k + 1, h => by
    show (if bt S (n + k) = true then _ else sayL U C S (n + k)) = _
    rw [if_neg (by rw [h (n + k) (by omega) (by omega)]; decide), sayL_ext (k := k) (fun c a b => h c a (by omega))]
set_option maxHeartbeats 2000000 in
theorem sayC {pu co we : Nat → Int32} {U : Nat → Bool} {C V : Nat → Nat} {cn : Nat} (hc : CHr pu co we U C V cn) (hcn : cn ≤ 12) (S x3 : Int32) {sn0 : Nat} {sb0 : Nat → Int32} (h0 : Sb [] sn0 sb0) : ∃ sn' sb', mK0_sentence_L26 (nI cn) pu co 0 S (mK0_sentence_A26 0 x3) 5000 0 0 sn0 sb0 0 0 = some (nI (sayL U C S cn ++ [46]).length, x3, nI (sayL U C S cn ++ [46]).length, sn', sb') ∧ Sb (sayL U C S cn ++ [46]) sn' sb' := by
  have h16 := h0.2.1
  refine lpU (S := Nat × (Nat → Int32) × Nat × Nat) (fun f c st => mK0_sentence_L26 (nI cn) pu co 0 S (mK0_sentence_A26 0 x3) f (nI c) (nI (sayL U C S c).length) st.1 st.2.1 st.2.2.1 st.2.2.2) (fun o => ∃ sn' sb', o = some (nI (sayL U C S cn ++ [46]).length, x3, nI (sayL U C S cn ++ [46]).length, sn', sb') ∧ Sb (sayL U C S cn ++ [46]) sn' sb') cn (fun c st => Sb (sayL U C S c) st.1 st.2.1 ∧ Gr sn0 st.1 st.2.2.1 st.2.2.2) ?_ ?_ 5000 0 (sn0, sb0, 0, 0) (by omega) (by omega) ⟨h0, Gr_0⟩
  · rintro f ⟨sn, sb, kc, ks⟩ ⟨h1, h2⟩
    have hlen := sayL_len (U := U) (C := C) (S := S) (n := cn)
    obtain ⟨n1, b1, c1, s1, e1, h3, g1⟩ := appC h1 (by omega) (x := 46) (by decide) (by decide) (by decide)
    have hb := Gr_b h16 h3.2.2.1 (Gr_c h2 g1)
    refine ⟨n1, b1, ?_, h3⟩
    show mK0_sentence_B26 (nI cn) pu co 0 S (mK0_sentence_A26 0 x3) _ (nI cn) (nI (sayL U C S cn).length) sn sb kc ks = _
    unfold mK0_sentence_B26
    rw [if_pos (nI_le (Nat.le_refl cn) (by omega))]
    unfold mK0_sentence_A26
    rw [e1, bd5v, bd1v, bd1v, bud_v hb.1 hb.2, bd0v]
    rfl
  · rintro f c ⟨sn, sb, kc, ks⟩ hcl ⟨h1, h2⟩
    right
    have h1 : Sb (sayL U C S c) sn sb := h1
    have h2 : Gr sn0 sn kc ks := h2
    have hlen := sayL_len (U := U) (C := C) (S := S) (n := c)
    have hb := Gr_b h16 h1.2.2.1 h2
    have hB : ∀ rc, mK0_sentence_B26 (nI cn) pu co 0 S (mK0_sentence_A26 0 x3) rc (nI c) (nI (sayL U C S c).length) sn sb kc ks = if bt S c = true then (if (sayL U C S c).length = 0 then (bd5 (mK3_tell pu co 0 (nI (sayL U C S c).length) sn sb (nI c)) fun x22 x23 x24 x25 x26 => bd0 (bud 8 2000 (kc + x25) (ks + x26)) (rc (nI (c + 1)) x22 x23 x24 (kc + x25) (ks + x26))) else (bd5 (mK6_append_LStringLStringBuilder 0 (nI (sayL U C S c).length) sn sb 2 ktx0) fun x32 x33 x34 x35 x36 => bd0 (bud 8 2000 (kc + x35) (ks + x36)) (bd5 (mK3_tell pu co 0 x32 x33 x34 (nI c)) fun x41 x42 x43 x44 x45 => bd0 (bud 8 2000 (kc + x35 + x44) (ks + x36 + x45)) (rc (nI (c + 1)) x41 x42 x43 (kc + x35 + x44) (ks + x36 + x45))))) else rc (nI (c + 1)) (nI (sayL U C S c).length) sn sb kc ks := by
      intro rc
      unfold mK0_sentence_B26
      rw [if_neg (fun w => by rw [nI_leI (by omega) (by omega)] at w; omega), hasM (by omega), bd1v, bud_v hb.1 hb.2, bd0v, ifbI, show mK6_length (nI (sayL U C S c).length) = some (nI (sayL U C S c).length) from rfl]
      simp only [bd1v, bd0v, nIs]
      by_cases e : bt S c = true
      · rw [if_pos e, if_pos e]
        by_cases e2 : (sayL U C S c).length = 0
        · rw [if_pos e2, if_pos (by rw [e2]; decide)]
        · rw [if_neg e2, if_neg (nI_nle (by omega) (by omega))]
      · rw [if_neg e, if_neg e]
    by_cases e : bt S c = true
    · by_cases e2 : (sayL U C S c).length = 0
      · have hs : sayL U C S (c + 1) = sayL U C S c ++ tellL (U c) (C c) := by rw [sayL, if_pos e, if_pos e2]
        obtain ⟨n1, b1, c1, s1, e1, h3, g1⟩ := tellC hc hcn hcl h1 (by omega)
        have hg := Gr_c h2 g1
        have hb1 := Gr_b h16 h3.2.2.1 hg
        refine ⟨(n1, b1, kc + c1, ks + s1), ⟨by rw [hs]; exact h3, hg⟩, ?_⟩
        show mK0_sentence_B26 (nI cn) pu co 0 S (mK0_sentence_A26 0 x3) (mK0_sentence_L26 (nI cn) pu co 0 S (mK0_sentence_A26 0 x3) f) (nI c) (nI (sayL U C S c).length) sn sb kc ks = mK0_sentence_L26 (nI cn) pu co 0 S (mK0_sentence_A26 0 x3) f (nI (c + 1)) (nI (sayL U C S (c + 1)).length) n1 b1 (kc + c1) (ks + s1)
        rw [hB, if_pos e, if_pos e2, e1, bd5v, bud_v hb1.1 hb1.2, bd0v, hs]
      · have hs : sayL U C S (c + 1) = (sayL U C S c ++ [44, 32]) ++ tellL (U c) (C c) := by rw [sayL, if_pos e, if_neg e2]
        obtain ⟨n1, b1, c1, s1, e1, h3, g1⟩ := appS h1 [44, 32] (by show _ + 2 ≤ 200; omega) (xf := ktx0) (fun j _ => rfl) ((by decide : ∀ j, j < 2 → okx (([44, 32] : List Int32).getD j 0)))
        have hg := Gr_c h2 g1
        have hb1 := Gr_b h16 h3.2.2.1 hg
        obtain ⟨n2, b2, c2, s2, e3, h4, g2⟩ := tellC hc hcn hcl h3 (by rw [List.length_append]; show _ + 2 ≤ 180; omega)
        have hg2 := Gr_c hg g2
        have hb2 := Gr_b h16 h4.2.2.1 hg2
        refine ⟨(n2, b2, kc + c1 + c2, ks + s1 + s2), ⟨by rw [hs]; exact h4, hg2⟩, ?_⟩
        show mK0_sentence_B26 (nI cn) pu co 0 S (mK0_sentence_A26 0 x3) (mK0_sentence_L26 (nI cn) pu co 0 S (mK0_sentence_A26 0 x3) f) (nI c) (nI (sayL U C S c).length) sn sb kc ks = mK0_sentence_L26 (nI cn) pu co 0 S (mK0_sentence_A26 0 x3) f (nI (c + 1)) (nI (sayL U C S (c + 1)).length) n2 b2 (kc + c1 + c2) (ks + s1 + s2)
        rw [hB, if_pos e, if_neg e2, show mK6_append_LStringLStringBuilder 0 (nI (sayL U C S c).length) sn sb 2 ktx0 = _ from e1, bd5v, bud_v hb1.1 hb1.2, bd0v, e3, bd5v, bud_v hb2.1 hb2.2, bd0v, hs]
    · have hs : sayL U C S (c + 1) = sayL U C S c := by rw [sayL, if_neg e]
      refine ⟨(sn, sb, kc, ks), ⟨by rw [hs]; exact h1, h2⟩, ?_⟩
      show mK0_sentence_B26 (nI cn) pu co 0 S (mK0_sentence_A26 0 x3) (mK0_sentence_L26 (nI cn) pu co 0 S (mK0_sentence_A26 0 x3) f) (nI c) (nI (sayL U C S c).length) sn sb kc ks = mK0_sentence_L26 (nI cn) pu co 0 S (mK0_sentence_A26 0 x3) f (nI (c + 1)) (nI (sayL U C S (c + 1)).length) sn sb kc ks
      rw [hB, if_neg e, hs]
set_option maxHeartbeats 2000000 in
theorem sayR {pu co we sets : Nat → Int32} {U : Nat → Bool} {C V : Nat → Nat} {cn : Nat} (hc : CHr pu co we U C V cn) (hcn : cn ≤ 12) {j : Nat} (hj : j < 31) (hbel : below (sets j) cn) (told : Nat → Int32) : ∃ told', mK5_sentence_L18 pu co sets (nI j) mK5_sentence_A18 5000 0 0 told = some (nI (sayL U C (sets j) cn ++ [46]).length, nI (sayL U C (sets j) cn ++ [46]).length, told') ∧ Tx told' (sayL U C (sets j) cn ++ [46]) := by
  refine lpU (S := Nat → Int32) (fun f c td => mK5_sentence_L18 pu co sets (nI j) mK5_sentence_A18 f (nI c) (nI (sayL U C (sets j) c).length) td) (fun o => ∃ told', o = some (nI (sayL U C (sets j) cn ++ [46]).length, nI (sayL U C (sets j) cn ++ [46]).length, told') ∧ Tx told' (sayL U C (sets j) cn ++ [46])) 12 (fun c td => Tx td (sayL U C (sets j) c)) ?_ ?_ 5000 0 told (by omega) (by omega) (fun i hi => absurd hi (Nat.not_lt_zero i))
  · intro f td h1
    have hx : sayL U C (sets j) 12 = sayL U C (sets j) cn := by
      have := sayL_ext (U := U) (C := C) (S := sets j) (n := cn) (k := 12 - cn) (fun c a b => hbel c a (by omega))
      rw [show cn + (12 - cn) = 12 by omega] at this
      exact this
    have hlen := sayL_len (U := U) (C := C) (S := sets j) (n := 12)
    obtain ⟨t1, e1, h2⟩ := tellR1 h1 (by omega) 46
    rw [hx] at e1 h2
    refine ⟨t1, ?_, h2⟩
    show mK5_sentence_B18 pu co sets (nI j) mK5_sentence_A18 _ (nI 12) (nI (sayL U C (sets j) 12).length) td = _
    unfold mK5_sentence_B18
    rw [if_pos (by decide), hx]
    unfold mK5_sentence_A18
    rw [e1, bd2v]
  · intro f c td hcl h1
    right
    have hlen := sayL_len (U := U) (C := C) (S := sets j) (n := c)
    have hB : ∀ rc, mK5_sentence_B18 pu co sets (nI j) mK5_sentence_A18 rc (nI c) (nI (sayL U C (sets j) c).length) td = if bt (sets j) c = true then (if (sayL U C (sets j) c).length = 0 then mK5_sentence_J57 pu co (nI c) rc (nI (sayL U C (sets j) c).length) td else (bd2 (mK5_tell (nI (sayL U C (sets j) c).length) td 44) fun x43 x44 => bd2 (mK5_tell x43 x44 32) fun x46 x47 => mK5_sentence_J57 pu co (nI c) rc x46 x47)) else rc (nI (c + 1)) (nI (sayL U C (sets j) c).length) td := by
      intro rc
      unfold mK5_sentence_B18
      rw [if_neg (fun w => by rw [le12 (by omega)] at w; omega), rdN hj (by decide), bd1v, nIs, bd1v]
      by_cases e : bt (sets j) c = true
      · rw [if_pos ((bit1 (by omega)).mpr e), if_pos e]
        by_cases e2 : (sayL U C (sets j) c).length = 0
        · rw [if_pos e2, if_pos (by rw [e2]; decide)]
        · rw [if_neg e2, if_neg (nI_nle (by omega) (by omega))]
      · rw [if_neg (fun q => e ((bit1 (by omega)).mp q)), if_neg e]
    by_cases e : bt (sets j) c = true
    · have hccn : c < cn := by
        rcases Nat.lt_or_ge c cn with q | q
        · exact q
        · rw [hbel c q (by omega)] at e; cases e
      by_cases e2 : (sayL U C (sets j) c).length = 0
      · have hs : sayL U C (sets j) (c + 1) = sayL U C (sets j) c ++ tellL (U c) (C c) := by rw [sayL, if_pos e, if_pos e2]
        obtain ⟨t1, e1, h2⟩ := tellRw hc hcn hccn h1 (by omega) (mK5_sentence_L18 pu co sets (nI j) mK5_sentence_A18 f)
        refine ⟨t1, by rw [hs]; exact h2, ?_⟩
        show mK5_sentence_B18 pu co sets (nI j) mK5_sentence_A18 (mK5_sentence_L18 pu co sets (nI j) mK5_sentence_A18 f) (nI c) (nI (sayL U C (sets j) c).length) td = _
        rw [hB, if_pos e, if_pos e2, e1, hs]
      · have hs : sayL U C (sets j) (c + 1) = (sayL U C (sets j) c ++ [44, 32]) ++ tellL (U c) (C c) := by rw [sayL, if_pos e, if_neg e2]
        obtain ⟨t1, e1, h2⟩ := tellR1 h1 (by omega) 44
        obtain ⟨t2, e3, h3⟩ := tellR1 h2 (by rw [len1]; omega) 32
        have hl2 : sayL U C (sets j) c ++ [44] ++ [32] = sayL U C (sets j) c ++ [44, 32] := by simp only [List.append_assoc, List.cons_append, List.nil_append]
        rw [hl2] at e3 h3
        obtain ⟨t3, e4, h4⟩ := tellRw hc hcn hccn h3 (by rw [List.length_append]; show _ + 2 ≤ 180; omega) (mK5_sentence_L18 pu co sets (nI j) mK5_sentence_A18 f)
        refine ⟨t3, by rw [hs]; exact h4, ?_⟩
        show mK5_sentence_B18 pu co sets (nI j) mK5_sentence_A18 (mK5_sentence_L18 pu co sets (nI j) mK5_sentence_A18 f) (nI c) (nI (sayL U C (sets j) c).length) td = _
        rw [hB, if_pos e, if_neg e2, e1, bd2v, e3, bd2v, e4, hs]
    · have hs : sayL U C (sets j) (c + 1) = sayL U C (sets j) c := by rw [sayL, if_neg e]
      refine ⟨td, by rw [hs]; exact h1, ?_⟩
      show mK5_sentence_B18 pu co sets (nI j) mK5_sentence_A18 (mK5_sentence_L18 pu co sets (nI j) mK5_sentence_A18 f) (nI c) (nI (sayL U C (sets j) c).length) td = _
      rw [hB, if_neg e, hs]
def TX2 (ct : Int32) (sn : Nat) (sb : Nat → Int32) (tm : Int32) (told : Nat → Int32) : Prop := ∃ l, l.length ≤ 200 ∧ ct = nI l.length ∧ tm = nI l.length ∧ Sb l sn sb ∧ Tx told l
theorem TX2_0 : TX2 0 16 (fun _ => 0) 0 (fun _ => 0) := ⟨[], Nat.zero_le _, rfl, rfl, ⟨Nat.zero_le _, Nat.le_refl _, by omega, fun i hi => absurd hi (Nat.not_lt_zero i), fun i _ => (by decide : okx 0)⟩, fun i hi => absurd hi (Nat.not_lt_zero i)⟩
theorem setLen {sml : Int32} {m sn : Nat} (hm : m < 2 ^ 30) (hsn : sn < 2 ^ 30) : ∃ x3, mK6_setLength 0 sml (nI m) sn 0 = some (x3, 0) := by
  unfold mK6_setLength mJ1_setLength mJ1_ens0
  rw [if_pos (by decide), shr0, bd1v, if_pos (by rw [nn0]; exact (sub_le0 (by omega) hsn).mpr (by omega)), bd0v, if_pos (nI_pos' (by omega))]
  by_cases e : nI m ≤ 0
  · rw [if_pos e, bd2v]; exact ⟨_, rfl⟩
  · rw [if_neg e, bd2v]; exact ⟨_, rfl⟩
set_option maxHeartbeats 1000000 in
theorem p_sentence {chn changes : Int32} {pu co we pu' co' we' : Nat → Int32} {U : Nat → Bool} {C V : Nat → Nat} {cn : Nat} (hc : CH2 chn pu co we changes pu' co' we' U C V cn) {fon found : Int32} {se sets : Nat → Int32} {k : Nat} (hf : FO2 fon se found sets cn k) {ct tm : Int32} {sn : Nat} {sb told : Nat → Int32} (ht : TX2 ct sn sb tm told) (sml v : Int32) :
    ∃ q sml' ct' sn' sb' tm' told', mK0_sentence chn pu co fon se 0 sml ct sn sb v = some (q, sml', ct', sn', sb') ∧ mK5_sentence found tm pu' co' sets told v = some (q, tm', told') ∧ TX2 ct' sn' sb' tm' told' := by
  obtain ⟨hcn, rfl, rfl, c1, c2⟩ := hc
  unfold mK0_sentence mK5_sentence
  rcases atC hf v with ⟨j, hj, rfl, e1, e0, hb, e2⟩ | ⟨e1, e2⟩
  · have hj30 : j < 30 := by have := hf.1; omega
    obtain ⟨l, hl, rfl, rfl, h1, h2⟩ := ht
    have hsn := h1.2.2.1
    obtain ⟨x3, e3⟩ := setLen (sml := sml) (m := l.length) (sn := sn) (by omega) (by omega)
    have hb0 : Sb [] sn sb := ⟨Nat.zero_le _, h1.2.1, h1.2.2.1, fun i hi => absurd hi (Nat.not_lt_zero i), h1.2.2.2.2⟩
    obtain ⟨sn', sb', e4, h3⟩ := sayC c1 hcn (sets j) x3 hb0
    obtain ⟨told', e5, h4⟩ := sayR c2 hcn (j := j) (by omega) hb told
    have hlen := sayL_len (U := U) (C := C) (S := sets j) (n := cn)
    refine ⟨nI (sayL U C (sets j) cn ++ [46]).length, x3, nI (sayL U C (sets j) cn ++ [46]).length, sn', sb', nI (sayL U C (sets j) cn ++ [46]).length, told', ?_, ?_, sayL U C (sets j) cn ++ [46], by rw [len1]; omega, rfl, rfl, h3, h4⟩
    · rw [e1, bd1v, bud_v (by omega) (by omega), bd0v, if_neg e0, e3, bd2v, bd0v, e4]
    · rw [e2, bd1v, if_neg (by decide), e5]
  · exact ⟨-2, sml, ct, sn, sb, tm, told, by rw [e1]; rfl, by rw [e2]; rfl, ht⟩
theorem p_letter {ct tm : Int32} {sn : Nat} {sb told : Nat → Int32} (ht : TX2 ct sn sb tm told) (v : Int32) : ∃ r, mK0_letter 0 ct sn sb v = some r ∧ mK5_letter tm told v = some r := by
  obtain ⟨l, hl, rfl, rfl, ⟨h1, h2, h3, h4, h5⟩, h6⟩ := ht
  unfold mK0_letter mK5_letter
  rcases inN v l.length (by omega) with ⟨j, hj, rfl, e1⟩ | ⟨e1, e2⟩
  · have hok := h5 j (by omega)
    refine ⟨sb j, ?_, ?_⟩
    · rw [if_neg (nI_pos (by omega)), show mK6_length (nI l.length) = some (nI l.length) from rfl, bd1v, if_pos ((nI_ltI (by omega) (by omega)).mpr hj)]
      unfold mK6_charAt mJ1_charAt mJ3_checkIndex mJ8_checkIndex_r
      rw [shr0, nI_imin (by omega) (by omega), Nat.min_eq_left h1, bd1v, if_neg (nI_pos (by omega)), if_pos ((nI_ltI (by omega) (by omega)).mpr hj), bd1v, bd0v, if_pos rfl, rdN (by omega) (by omega), bd1v, hok.2.1]
      unfold nz
      rw [if_pos hok.2.2, bd1v, bd1v, if_pos hok.2.2, bd1v, bd1v]
    · rw [e1, bd1v, if_neg (by decide), rdN (by omega) (by decide), bd1v, h6 j hj, h4 j hj]
  · refine ⟨-2, ?_, by rw [e1]; rfl⟩
    by_cases hv : v < 0
    · rw [if_pos hv]
    · obtain ⟨i, hi, rfl⟩ := nI_of hv
      rw [if_neg hv, show mK6_length (nI l.length) = some (nI l.length) from rfl, bd1v, if_neg (fun q => by rw [nI_ltI (by omega) (by omega)] at q; exact e2 i q rfl)]
